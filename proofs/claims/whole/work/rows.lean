section
-- ===== PART A: goes FIRST, ahead of the names: the tables' words, and 'selects' of the private methods out of them =====
/-- a private method of a class that the tables say can be made, by its rows of tables_1 -/
def lw_okq (q : MethodName × Nat) : Prop := (q.1.cls ≠ "java/lang/invoke/MethodHandle" ∧ q.1.cls ≠ "java/lang/invoke/VarHandle") ∧ Cond.instantiable q.1.cls q.2 ∈ tables_1 ∧ Cond.privateMethod q.1 ∈ tables_1 ∧ Cond.instanceMethod q.1 ∈ tables_1
theorem lw_p0 : lw_okq (⟨"CamPieces", "standAt", "(II)Z"⟩, 15) := ⟨⟨by decide +kernel, by decide +kernel⟩, List.mem_of_getElem? (i := 18) (by decide +kernel), List.mem_of_getElem? (i := 382) (by decide +kernel), List.mem_of_getElem? (i := 383) (by decide +kernel)⟩
theorem lw_p1 : lw_okq (⟨"CamPieces", "standIn", "(II)Z"⟩, 15) := ⟨⟨by decide +kernel, by decide +kernel⟩, List.mem_of_getElem? (i := 18) (by decide +kernel), List.mem_of_getElem? (i := 386) (by decide +kernel), List.mem_of_getElem? (i := 387) (by decide +kernel)⟩
theorem lw_p2 : lw_okq (⟨"CamPieces$Spot", "write", "(JJJJ)V"⟩, 5) := ⟨⟨by decide +kernel, by decide +kernel⟩, List.mem_of_getElem? (i := 97) (by decide +kernel), List.mem_of_getElem? (i := 394) (by decide +kernel), List.mem_of_getElem? (i := 395) (by decide +kernel)⟩
theorem lw_p3 : lw_okq (⟨"CamPieces$Spot", "standInCubic", "(JJJ)V"⟩, 5) := ⟨⟨by decide +kernel, by decide +kernel⟩, List.mem_of_getElem? (i := 97) (by decide +kernel), List.mem_of_getElem? (i := 400) (by decide +kernel), List.mem_of_getElem? (i := 401) (by decide +kernel)⟩
theorem lw_p4 : lw_okq (⟨"CamPieces$Spot", "standInQuintic", "(JJJ)V"⟩, 5) := ⟨⟨by decide +kernel, by decide +kernel⟩, List.mem_of_getElem? (i := 97) (by decide +kernel), List.mem_of_getElem? (i := 406) (by decide +kernel), List.mem_of_getElem? (i := 407) (by decide +kernel)⟩
theorem lw_p5 : lw_okq (⟨"CamPieces", "hasJoin", "(I)Z"⟩, 15) := ⟨⟨by decide +kernel, by decide +kernel⟩, List.mem_of_getElem? (i := 18) (by decide +kernel), List.mem_of_getElem? (i := 432) (by decide +kernel), List.mem_of_getElem? (i := 433) (by decide +kernel)⟩
theorem lw_p6 : lw_okq (⟨"CamPieces", "reckonJump", "(II)V"⟩, 15) := ⟨⟨by decide +kernel, by decide +kernel⟩, List.mem_of_getElem? (i := 18) (by decide +kernel), List.mem_of_getElem? (i := 436) (by decide +kernel), List.mem_of_getElem? (i := 437) (by decide +kernel)⟩
theorem lw_p7 : lw_okq (⟨"CamPieces", "pieceAhead", "(I)I"⟩, 15) := ⟨⟨by decide +kernel, by decide +kernel⟩, List.mem_of_getElem? (i := 18) (by decide +kernel), List.mem_of_getElem? (i := 440) (by decide +kernel), List.mem_of_getElem? (i := 441) (by decide +kernel)⟩
theorem lw_p8 : lw_okq (⟨"CamPieces", "kindOfJoin", "(I)I"⟩, 15) := ⟨⟨by decide +kernel, by decide +kernel⟩, List.mem_of_getElem? (i := 18) (by decide +kernel), List.mem_of_getElem? (i := 461) (by decide +kernel), List.mem_of_getElem? (i := 462) (by decide +kernel)⟩
theorem lw_p9 : lw_okq (⟨"CamPieces", "curveHere", "()J"⟩, 15) := ⟨⟨by decide +kernel, by decide +kernel⟩, List.mem_of_getElem? (i := 18) (by decide +kernel), List.mem_of_getElem? (i := 477) (by decide +kernel), List.mem_of_getElem? (i := 478) (by decide +kernel)⟩
theorem lw_p10 : lw_okq (⟨"CamPieces", "reachHere", "()J"⟩, 15) := ⟨⟨by decide +kernel, by decide +kernel⟩, List.mem_of_getElem? (i := 18) (by decide +kernel), List.mem_of_getElem? (i := 481) (by decide +kernel), List.mem_of_getElem? (i := 482) (by decide +kernel)⟩
theorem lw_p11 : lw_okq (⟨"CamPieces", "setting", "(I)J"⟩, 15) := ⟨⟨by decide +kernel, by decide +kernel⟩, List.mem_of_getElem? (i := 18) (by decide +kernel), List.mem_of_getElem? (i := 485) (by decide +kernel), List.mem_of_getElem? (i := 486) (by decide +kernel)⟩
theorem lw_p12 : lw_okq (⟨"CamPieces", "forceHere", "()J"⟩, 15) := ⟨⟨by decide +kernel, by decide +kernel⟩, List.mem_of_getElem? (i := 18) (by decide +kernel), List.mem_of_getElem? (i := 499) (by decide +kernel), List.mem_of_getElem? (i := 500) (by decide +kernel)⟩
theorem lw_p13 : lw_okq (⟨"CamPieces", "preloadHere", "()J"⟩, 15) := ⟨⟨by decide +kernel, by decide +kernel⟩, List.mem_of_getElem? (i := 18) (by decide +kernel), List.mem_of_getElem? (i := 503) (by decide +kernel), List.mem_of_getElem? (i := 504) (by decide +kernel)⟩
theorem lw_p14 : lw_okq (⟨"CamPieces", "springHere", "()J"⟩, 15) := ⟨⟨by decide +kernel, by decide +kernel⟩, List.mem_of_getElem? (i := 18) (by decide +kernel), List.mem_of_getElem? (i := 507) (by decide +kernel), List.mem_of_getElem? (i := 508) (by decide +kernel)⟩
theorem lw_p15 : lw_okq (⟨"CamPieces", "inertiaHere", "()J"⟩, 15) := ⟨⟨by decide +kernel, by decide +kernel⟩, List.mem_of_getElem? (i := 18) (by decide +kernel), List.mem_of_getElem? (i := 511) (by decide +kernel), List.mem_of_getElem? (i := 512) (by decide +kernel)⟩
def lw_privs_1 : List (MethodName × Nat) := [(⟨"CamPieces", "standAt", "(II)Z"⟩, 15), (⟨"CamPieces", "standIn", "(II)Z"⟩, 15), (⟨"CamPieces$Spot", "write", "(JJJJ)V"⟩, 5), (⟨"CamPieces$Spot", "standInCubic", "(JJJ)V"⟩, 5), (⟨"CamPieces$Spot", "standInQuintic", "(JJJ)V"⟩, 5), (⟨"CamPieces", "hasJoin", "(I)Z"⟩, 15), (⟨"CamPieces", "reckonJump", "(II)V"⟩, 15), (⟨"CamPieces", "pieceAhead", "(I)I"⟩, 15), (⟨"CamPieces", "kindOfJoin", "(I)I"⟩, 15), (⟨"CamPieces", "curveHere", "()J"⟩, 15), (⟨"CamPieces", "reachHere", "()J"⟩, 15), (⟨"CamPieces", "setting", "(I)J"⟩, 15), (⟨"CamPieces", "forceHere", "()J"⟩, 15), (⟨"CamPieces", "preloadHere", "()J"⟩, 15), (⟨"CamPieces", "springHere", "()J"⟩, 15), (⟨"CamPieces", "inertiaHere", "()J"⟩, 15)]
theorem lw_r1 : ∀ q ∈ lw_privs_1, lw_okq q := List.forall_mem_cons.mpr ⟨lw_p0, List.forall_mem_cons.mpr ⟨lw_p1, List.forall_mem_cons.mpr ⟨lw_p2, List.forall_mem_cons.mpr ⟨lw_p3, List.forall_mem_cons.mpr ⟨lw_p4, List.forall_mem_cons.mpr ⟨lw_p5, List.forall_mem_cons.mpr ⟨lw_p6, List.forall_mem_cons.mpr ⟨lw_p7, List.forall_mem_cons.mpr ⟨lw_p8, List.forall_mem_cons.mpr ⟨lw_p9, List.forall_mem_cons.mpr ⟨lw_p10, List.forall_mem_cons.mpr ⟨lw_p11, List.forall_mem_cons.mpr ⟨lw_p12, List.forall_mem_cons.mpr ⟨lw_p13, List.forall_mem_cons.mpr ⟨lw_p14, List.forall_mem_cons.mpr ⟨lw_p15, fun _ h => absurd h List.not_mem_nil⟩⟩⟩⟩⟩⟩⟩⟩⟩⟩⟩⟩⟩⟩⟩⟩
theorem lw_p16 : lw_okq (⟨"CamPieces$Walk", "stepOn", "(II)V"⟩, 6) := ⟨⟨by decide +kernel, by decide +kernel⟩, List.mem_of_getElem? (i := 122) (by decide +kernel), List.mem_of_getElem? (i := 536) (by decide +kernel), List.mem_of_getElem? (i := 537) (by decide +kernel)⟩
theorem lw_p17 : lw_okq (⟨"CamPieces", "cornersAt", "(I)I"⟩, 15) := ⟨⟨by decide +kernel, by decide +kernel⟩, List.mem_of_getElem? (i := 18) (by decide +kernel), List.mem_of_getElem? (i := 602) (by decide +kernel), List.mem_of_getElem? (i := 603) (by decide +kernel)⟩
theorem lw_p18 : lw_okq (⟨"CamPieces", "hasCorner", "(I)Z"⟩, 15) := ⟨⟨by decide +kernel, by decide +kernel⟩, List.mem_of_getElem? (i := 18) (by decide +kernel), List.mem_of_getElem? (i := 612) (by decide +kernel), List.mem_of_getElem? (i := 613) (by decide +kernel)⟩
theorem lw_p19 : lw_okq (⟨"CamPieces", "sampleHere", "()J"⟩, 15) := ⟨⟨by decide +kernel, by decide +kernel⟩, List.mem_of_getElem? (i := 18) (by decide +kernel), List.mem_of_getElem? (i := 620) (by decide +kernel), List.mem_of_getElem? (i := 621) (by decide +kernel)⟩
theorem lw_p20 : lw_okq (⟨"CamPieces", "takeSamples", "()V"⟩, 15) := ⟨⟨by decide +kernel, by decide +kernel⟩, List.mem_of_getElem? (i := 18) (by decide +kernel), List.mem_of_getElem? (i := 633) (by decide +kernel), List.mem_of_getElem? (i := 634) (by decide +kernel)⟩
theorem lw_p21 : lw_okq (⟨"CamPieces", "gapAt", "(III)J"⟩, 15) := ⟨⟨by decide +kernel, by decide +kernel⟩, List.mem_of_getElem? (i := 18) (by decide +kernel), List.mem_of_getElem? (i := 637) (by decide +kernel), List.mem_of_getElem? (i := 638) (by decide +kernel)⟩
theorem lw_p22 : lw_okq (⟨"CamPieces", "sampleAt", "(I)J"⟩, 15) := ⟨⟨by decide +kernel, by decide +kernel⟩, List.mem_of_getElem? (i := 18) (by decide +kernel), List.mem_of_getElem? (i := 650) (by decide +kernel), List.mem_of_getElem? (i := 651) (by decide +kernel)⟩
theorem lw_p23 : lw_okq (⟨"CamPieces", "isErrorWithin", "(II)Z"⟩, 15) := ⟨⟨by decide +kernel, by decide +kernel⟩, List.mem_of_getElem? (i := 18) (by decide +kernel), List.mem_of_getElem? (i := 658) (by decide +kernel), List.mem_of_getElem? (i := 659) (by decide +kernel)⟩
theorem lw_p24 : lw_okq (⟨"CamPieces", "areAngles", "(III)Z"⟩, 15) := ⟨⟨by decide +kernel, by decide +kernel⟩, List.mem_of_getElem? (i := 18) (by decide +kernel), List.mem_of_getElem? (i := 677) (by decide +kernel), List.mem_of_getElem? (i := 678) (by decide +kernel)⟩
theorem lw_p25 : lw_okq (⟨"CamPieces", "isSeenBy", "(IIIII)Z"⟩, 15) := ⟨⟨by decide +kernel, by decide +kernel⟩, List.mem_of_getElem? (i := 18) (by decide +kernel), List.mem_of_getElem? (i := 700) (by decide +kernel), List.mem_of_getElem? (i := 701) (by decide +kernel)⟩
theorem lw_p26 : lw_okq (⟨"CamPieces$Reader", "readPiece", "()Z"⟩, 8) := ⟨⟨by decide +kernel, by decide +kernel⟩, List.mem_of_getElem? (i := 46) (by decide +kernel), List.mem_of_getElem? (i := 738) (by decide +kernel), List.mem_of_getElem? (i := 739) (by decide +kernel)⟩
theorem lw_p27 : lw_okq (⟨"CamPieces$Reader", "readKind", "()I"⟩, 8) := ⟨⟨by decide +kernel, by decide +kernel⟩, List.mem_of_getElem? (i := 46) (by decide +kernel), List.mem_of_getElem? (i := 742) (by decide +kernel), List.mem_of_getElem? (i := 743) (by decide +kernel)⟩
theorem lw_p28 : lw_okq (⟨"CamPieces$Reader", "byteHere", "()I"⟩, 8) := ⟨⟨by decide +kernel, by decide +kernel⟩, List.mem_of_getElem? (i := 46) (by decide +kernel), List.mem_of_getElem? (i := 746) (by decide +kernel), List.mem_of_getElem? (i := 747) (by decide +kernel)⟩
theorem lw_p29 : lw_okq (⟨"CamPieces$Reader", "isWord", "(IILjava/lang/String;)Z"⟩, 8) := ⟨⟨by decide +kernel, by decide +kernel⟩, List.mem_of_getElem? (i := 46) (by decide +kernel), List.mem_of_getElem? (i := 760) (by decide +kernel), List.mem_of_getElem? (i := 761) (by decide +kernel)⟩
theorem lw_p30 : lw_okq (⟨"CamPieces$Reader", "fail", "(II)Z"⟩, 8) := ⟨⟨by decide +kernel, by decide +kernel⟩, List.mem_of_getElem? (i := 46) (by decide +kernel), List.mem_of_getElem? (i := 812) (by decide +kernel), List.mem_of_getElem? (i := 813) (by decide +kernel)⟩
theorem lw_p31 : lw_okq (⟨"CamPieces$Reader", "readBlank", "()Z"⟩, 8) := ⟨⟨by decide +kernel, by decide +kernel⟩, List.mem_of_getElem? (i := 46) (by decide +kernel), List.mem_of_getElem? (i := 816) (by decide +kernel), List.mem_of_getElem? (i := 817) (by decide +kernel)⟩
def lw_privs_2 : List (MethodName × Nat) := [(⟨"CamPieces$Walk", "stepOn", "(II)V"⟩, 6), (⟨"CamPieces", "cornersAt", "(I)I"⟩, 15), (⟨"CamPieces", "hasCorner", "(I)Z"⟩, 15), (⟨"CamPieces", "sampleHere", "()J"⟩, 15), (⟨"CamPieces", "takeSamples", "()V"⟩, 15), (⟨"CamPieces", "gapAt", "(III)J"⟩, 15), (⟨"CamPieces", "sampleAt", "(I)J"⟩, 15), (⟨"CamPieces", "isErrorWithin", "(II)Z"⟩, 15), (⟨"CamPieces", "areAngles", "(III)Z"⟩, 15), (⟨"CamPieces", "isSeenBy", "(IIIII)Z"⟩, 15), (⟨"CamPieces$Reader", "readPiece", "()Z"⟩, 8), (⟨"CamPieces$Reader", "readKind", "()I"⟩, 8), (⟨"CamPieces$Reader", "byteHere", "()I"⟩, 8), (⟨"CamPieces$Reader", "isWord", "(IILjava/lang/String;)Z"⟩, 8), (⟨"CamPieces$Reader", "fail", "(II)Z"⟩, 8), (⟨"CamPieces$Reader", "readBlank", "()Z"⟩, 8)]
theorem lw_r2 : ∀ q ∈ lw_privs_2, lw_okq q := List.forall_mem_cons.mpr ⟨lw_p16, List.forall_mem_cons.mpr ⟨lw_p17, List.forall_mem_cons.mpr ⟨lw_p18, List.forall_mem_cons.mpr ⟨lw_p19, List.forall_mem_cons.mpr ⟨lw_p20, List.forall_mem_cons.mpr ⟨lw_p21, List.forall_mem_cons.mpr ⟨lw_p22, List.forall_mem_cons.mpr ⟨lw_p23, List.forall_mem_cons.mpr ⟨lw_p24, List.forall_mem_cons.mpr ⟨lw_p25, List.forall_mem_cons.mpr ⟨lw_p26, List.forall_mem_cons.mpr ⟨lw_p27, List.forall_mem_cons.mpr ⟨lw_p28, List.forall_mem_cons.mpr ⟨lw_p29, List.forall_mem_cons.mpr ⟨lw_p30, List.forall_mem_cons.mpr ⟨lw_p31, fun _ h => absurd h List.not_mem_nil⟩⟩⟩⟩⟩⟩⟩⟩⟩⟩⟩⟩⟩⟩⟩⟩
theorem lw_p32 : lw_okq (⟨"CamPieces$Reader", "readFigures", "(I)I"⟩, 8) := ⟨⟨by decide +kernel, by decide +kernel⟩, List.mem_of_getElem? (i := 46) (by decide +kernel), List.mem_of_getElem? (i := 820) (by decide +kernel), List.mem_of_getElem? (i := 821) (by decide +kernel)⟩
theorem lw_p33 : lw_okq (⟨"CamPieces$Reader", "readRise", "()I"⟩, 8) := ⟨⟨by decide +kernel, by decide +kernel⟩, List.mem_of_getElem? (i := 46) (by decide +kernel), List.mem_of_getElem? (i := 824) (by decide +kernel), List.mem_of_getElem? (i := 825) (by decide +kernel)⟩
theorem lw_p34 : lw_okq (⟨"CamPieces$Reader", "keep", "(III)V"⟩, 8) := ⟨⟨by decide +kernel, by decide +kernel⟩, List.mem_of_getElem? (i := 46) (by decide +kernel), List.mem_of_getElem? (i := 828) (by decide +kernel), List.mem_of_getElem? (i := 829) (by decide +kernel)⟩
theorem lw_p35 : lw_okq (⟨"CamPiecesModel", "total", "()I"⟩, 35) := ⟨⟨by decide +kernel, by decide +kernel⟩, List.mem_of_getElem? (i := 871) (by decide +kernel), List.mem_of_getElem? (i := 997) (by decide +kernel), List.mem_of_getElem? (i := 998) (by decide +kernel)⟩
theorem lw_p36 : lw_okq (⟨"CamPiecesModel", "isPiece", "(I)Z"⟩, 35) := ⟨⟨by decide +kernel, by decide +kernel⟩, List.mem_of_getElem? (i := 871) (by decide +kernel), List.mem_of_getElem? (i := 1009) (by decide +kernel), List.mem_of_getElem? (i := 1010) (by decide +kernel)⟩
theorem lw_p37 : lw_okq (⟨"CamPiecesModel", "begin", "(I)I"⟩, 35) := ⟨⟨by decide +kernel, by decide +kernel⟩, List.mem_of_getElem? (i := 871) (by decide +kernel), List.mem_of_getElem? (i := 1019) (by decide +kernel), List.mem_of_getElem? (i := 1020) (by decide +kernel)⟩
theorem lw_p38 : lw_okq (⟨"CamPiecesModel", "ahead", "(I)I"⟩, 35) := ⟨⟨by decide +kernel, by decide +kernel⟩, List.mem_of_getElem? (i := 871) (by decide +kernel), List.mem_of_getElem? (i := 1023) (by decide +kernel), List.mem_of_getElem? (i := 1024) (by decide +kernel)⟩
theorem lw_p39 : lw_okq (⟨"CamPiecesModel", "isClosed", "()Z"⟩, 35) := ⟨⟨by decide +kernel, by decide +kernel⟩, List.mem_of_getElem? (i := 871) (by decide +kernel), List.mem_of_getElem? (i := 1036) (by decide +kernel), List.mem_of_getElem? (i := 1037) (by decide +kernel)⟩
theorem lw_p40 : lw_okq (⟨"CamPiecesModel", "areAlike", "(II)Z"⟩, 35) := ⟨⟨by decide +kernel, by decide +kernel⟩, List.mem_of_getElem? (i := 871) (by decide +kernel), List.mem_of_getElem? (i := 1051) (by decide +kernel), List.mem_of_getElem? (i := 1052) (by decide +kernel)⟩
theorem lw_p41 : lw_okq (⟨"CamPiecesModel", "looks", "(II)Z"⟩, 35) := ⟨⟨by decide +kernel, by decide +kernel⟩, List.mem_of_getElem? (i := 871) (by decide +kernel), List.mem_of_getElem? (i := 1068) (by decide +kernel), List.mem_of_getElem? (i := 1069) (by decide +kernel)⟩
theorem lw_p42 : lw_okq (⟨"CamPiecesModel", "finds", "(II)Z"⟩, 35) := ⟨⟨by decide +kernel, by decide +kernel⟩, List.mem_of_getElem? (i := 871) (by decide +kernel), List.mem_of_getElem? (i := 1072) (by decide +kernel), List.mem_of_getElem? (i := 1073) (by decide +kernel)⟩
theorem lw_p43 : lw_okq (⟨"CamPiecesModel", "isAngle", "(I)Z"⟩, 35) := ⟨⟨by decide +kernel, by decide +kernel⟩, List.mem_of_getElem? (i := 871) (by decide +kernel), List.mem_of_getElem? (i := 1076) (by decide +kernel), List.mem_of_getElem? (i := 1077) (by decide +kernel)⟩
theorem lw_p44 : lw_okq (⟨"CamPiecesModel", "isJoin", "(I)Z"⟩, 35) := ⟨⟨by decide +kernel, by decide +kernel⟩, List.mem_of_getElem? (i := 871) (by decide +kernel), List.mem_of_getElem? (i := 1114) (by decide +kernel), List.mem_of_getElem? (i := 1115) (by decide +kernel)⟩
theorem lw_p45 : lw_okq (⟨"CamPiecesModel", "jumps", "(II)V"⟩, 35) := ⟨⟨by decide +kernel, by decide +kernel⟩, List.mem_of_getElem? (i := 871) (by decide +kernel), List.mem_of_getElem? (i := 1118) (by decide +kernel), List.mem_of_getElem? (i := 1119) (by decide +kernel)⟩
theorem lw_p46 : lw_okq (⟨"CamPiecesModel", "joinOf", "(I)I"⟩, 35) := ⟨⟨by decide +kernel, by decide +kernel⟩, List.mem_of_getElem? (i := 871) (by decide +kernel), List.mem_of_getElem? (i := 1126) (by decide +kernel), List.mem_of_getElem? (i := 1127) (by decide +kernel)⟩
theorem lw_p47 : lw_okq (⟨"CamPiecesModel", "curveNow", "()J"⟩, 35) := ⟨⟨by decide +kernel, by decide +kernel⟩, List.mem_of_getElem? (i := 871) (by decide +kernel), List.mem_of_getElem? (i := 1146) (by decide +kernel), List.mem_of_getElem? (i := 1147) (by decide +kernel)⟩
def lw_privs_3 : List (MethodName × Nat) := [(⟨"CamPieces$Reader", "readFigures", "(I)I"⟩, 8), (⟨"CamPieces$Reader", "readRise", "()I"⟩, 8), (⟨"CamPieces$Reader", "keep", "(III)V"⟩, 8), (⟨"CamPiecesModel", "total", "()I"⟩, 35), (⟨"CamPiecesModel", "isPiece", "(I)Z"⟩, 35), (⟨"CamPiecesModel", "begin", "(I)I"⟩, 35), (⟨"CamPiecesModel", "ahead", "(I)I"⟩, 35), (⟨"CamPiecesModel", "isClosed", "()Z"⟩, 35), (⟨"CamPiecesModel", "areAlike", "(II)Z"⟩, 35), (⟨"CamPiecesModel", "looks", "(II)Z"⟩, 35), (⟨"CamPiecesModel", "finds", "(II)Z"⟩, 35), (⟨"CamPiecesModel", "isAngle", "(I)Z"⟩, 35), (⟨"CamPiecesModel", "isJoin", "(I)Z"⟩, 35), (⟨"CamPiecesModel", "jumps", "(II)V"⟩, 35), (⟨"CamPiecesModel", "joinOf", "(I)I"⟩, 35), (⟨"CamPiecesModel", "curveNow", "()J"⟩, 35)]
theorem lw_r3 : ∀ q ∈ lw_privs_3, lw_okq q := List.forall_mem_cons.mpr ⟨lw_p32, List.forall_mem_cons.mpr ⟨lw_p33, List.forall_mem_cons.mpr ⟨lw_p34, List.forall_mem_cons.mpr ⟨lw_p35, List.forall_mem_cons.mpr ⟨lw_p36, List.forall_mem_cons.mpr ⟨lw_p37, List.forall_mem_cons.mpr ⟨lw_p38, List.forall_mem_cons.mpr ⟨lw_p39, List.forall_mem_cons.mpr ⟨lw_p40, List.forall_mem_cons.mpr ⟨lw_p41, List.forall_mem_cons.mpr ⟨lw_p42, List.forall_mem_cons.mpr ⟨lw_p43, List.forall_mem_cons.mpr ⟨lw_p44, List.forall_mem_cons.mpr ⟨lw_p45, List.forall_mem_cons.mpr ⟨lw_p46, List.forall_mem_cons.mpr ⟨lw_p47, fun _ h => absurd h List.not_mem_nil⟩⟩⟩⟩⟩⟩⟩⟩⟩⟩⟩⟩⟩⟩⟩⟩
theorem lw_p48 : lw_okq (⟨"CamPiecesModel", "forceNow", "(II)J"⟩, 35) := ⟨⟨by decide +kernel, by decide +kernel⟩, List.mem_of_getElem? (i := 871) (by decide +kernel), List.mem_of_getElem? (i := 1160) (by decide +kernel), List.mem_of_getElem? (i := 1161) (by decide +kernel)⟩
theorem lw_p49 : lw_okq (⟨"CamPiecesModel", "isSo", "(II)Z"⟩, 35) := ⟨⟨by decide +kernel, by decide +kernel⟩, List.mem_of_getElem? (i := 871) (by decide +kernel), List.mem_of_getElem? (i := 1168) (by decide +kernel), List.mem_of_getElem? (i := 1169) (by decide +kernel)⟩
theorem lw_p50 : lw_okq (⟨"CamPiecesModel", "leastAbove", "(Z)I"⟩, 35) := ⟨⟨by decide +kernel, by decide +kernel⟩, List.mem_of_getElem? (i := 871) (by decide +kernel), List.mem_of_getElem? (i := 1176) (by decide +kernel), List.mem_of_getElem? (i := 1177) (by decide +kernel)⟩
theorem lw_p51 : lw_okq (⟨"CamPiecesModel", "isGentle", "(II)Z"⟩, 35) := ⟨⟨by decide +kernel, by decide +kernel⟩, List.mem_of_getElem? (i := 871) (by decide +kernel), List.mem_of_getElem? (i := 1199) (by decide +kernel), List.mem_of_getElem? (i := 1200) (by decide +kernel)⟩
theorem lw_p52 : lw_okq (⟨"CamPiecesModel", "floatsAt", "(III)Z"⟩, 35) := ⟨⟨by decide +kernel, by decide +kernel⟩, List.mem_of_getElem? (i := 871) (by decide +kernel), List.mem_of_getElem? (i := 1208) (by decide +kernel), List.mem_of_getElem? (i := 1209) (by decide +kernel)⟩
theorem lw_p53 : lw_okq (⟨"CamPiecesModel", "floatsBy", "(II)Z"⟩, 35) := ⟨⟨by decide +kernel, by decide +kernel⟩, List.mem_of_getElem? (i := 871) (by decide +kernel), List.mem_of_getElem? (i := 1216) (by decide +kernel), List.mem_of_getElem? (i := 1217) (by decide +kernel)⟩
theorem lw_p54 : lw_okq (⟨"CamPiecesModel", "hasCorner", "()Z"⟩, 35) := ⟨⟨by decide +kernel, by decide +kernel⟩, List.mem_of_getElem? (i := 871) (by decide +kernel), List.mem_of_getElem? (i := 1234) (by decide +kernel), List.mem_of_getElem? (i := 1235) (by decide +kernel)⟩
theorem lw_p55 : lw_okq (⟨"CamPiecesModel", "sampleAt", "(I)J"⟩, 35) := ⟨⟨by decide +kernel, by decide +kernel⟩, List.mem_of_getElem? (i := 871) (by decide +kernel), List.mem_of_getElem? (i := 1242) (by decide +kernel), List.mem_of_getElem? (i := 1243) (by decide +kernel)⟩
theorem lw_p56 : lw_okq (⟨"CamPiecesModel", "sampleOf", "(IIII)J"⟩, 35) := ⟨⟨by decide +kernel, by decide +kernel⟩, List.mem_of_getElem? (i := 871) (by decide +kernel), List.mem_of_getElem? (i := 1246) (by decide +kernel), List.mem_of_getElem? (i := 1247) (by decide +kernel)⟩
theorem lw_p57 : lw_okq (⟨"CamPiecesModel", "errs", "(I)V"⟩, 35) := ⟨⟨by decide +kernel, by decide +kernel⟩, List.mem_of_getElem? (i := 871) (by decide +kernel), List.mem_of_getElem? (i := 1257) (by decide +kernel), List.mem_of_getElem? (i := 1258) (by decide +kernel)⟩
theorem lw_p58 : lw_okq (⟨"CamPiecesModel", "isSeen", "(IIII)Z"⟩, 35) := ⟨⟨by decide +kernel, by decide +kernel⟩, List.mem_of_getElem? (i := 871) (by decide +kernel), List.mem_of_getElem? (i := 1277) (by decide +kernel), List.mem_of_getElem? (i := 1278) (by decide +kernel)⟩
theorem lw_p59 : lw_okq (⟨"CamPiecesModel", "pieceRead", "()V"⟩, 35) := ⟨⟨by decide +kernel, by decide +kernel⟩, List.mem_of_getElem? (i := 871) (by decide +kernel), List.mem_of_getElem? (i := 1294) (by decide +kernel), List.mem_of_getElem? (i := 1295) (by decide +kernel)⟩
theorem lw_p60 : lw_okq (⟨"CamPiecesModel", "wordRead", "()I"⟩, 35) := ⟨⟨by decide +kernel, by decide +kernel⟩, List.mem_of_getElem? (i := 871) (by decide +kernel), List.mem_of_getElem? (i := 1298) (by decide +kernel), List.mem_of_getElem? (i := 1299) (by decide +kernel)⟩
theorem lw_p61 : lw_okq (⟨"CamPiecesModel", "byteAt", "(I)I"⟩, 35) := ⟨⟨by decide +kernel, by decide +kernel⟩, List.mem_of_getElem? (i := 871) (by decide +kernel), List.mem_of_getElem? (i := 1302) (by decide +kernel), List.mem_of_getElem? (i := 1303) (by decide +kernel)⟩
theorem lw_p62 : lw_okq (⟨"CamPiecesModel", "isWord", "(II)Z"⟩, 35) := ⟨⟨by decide +kernel, by decide +kernel⟩, List.mem_of_getElem? (i := 871) (by decide +kernel), List.mem_of_getElem? (i := 1308) (by decide +kernel), List.mem_of_getElem? (i := 1309) (by decide +kernel)⟩
theorem lw_p63 : lw_okq (⟨"CamPiecesModel", "fails", "(II)V"⟩, 35) := ⟨⟨by decide +kernel, by decide +kernel⟩, List.mem_of_getElem? (i := 871) (by decide +kernel), List.mem_of_getElem? (i := 1312) (by decide +kernel), List.mem_of_getElem? (i := 1313) (by decide +kernel)⟩
def lw_privs_4 : List (MethodName × Nat) := [(⟨"CamPiecesModel", "forceNow", "(II)J"⟩, 35), (⟨"CamPiecesModel", "isSo", "(II)Z"⟩, 35), (⟨"CamPiecesModel", "leastAbove", "(Z)I"⟩, 35), (⟨"CamPiecesModel", "isGentle", "(II)Z"⟩, 35), (⟨"CamPiecesModel", "floatsAt", "(III)Z"⟩, 35), (⟨"CamPiecesModel", "floatsBy", "(II)Z"⟩, 35), (⟨"CamPiecesModel", "hasCorner", "()Z"⟩, 35), (⟨"CamPiecesModel", "sampleAt", "(I)J"⟩, 35), (⟨"CamPiecesModel", "sampleOf", "(IIII)J"⟩, 35), (⟨"CamPiecesModel", "errs", "(I)V"⟩, 35), (⟨"CamPiecesModel", "isSeen", "(IIII)Z"⟩, 35), (⟨"CamPiecesModel", "pieceRead", "()V"⟩, 35), (⟨"CamPiecesModel", "wordRead", "()I"⟩, 35), (⟨"CamPiecesModel", "byteAt", "(I)I"⟩, 35), (⟨"CamPiecesModel", "isWord", "(II)Z"⟩, 35), (⟨"CamPiecesModel", "fails", "(II)V"⟩, 35)]
theorem lw_r4 : ∀ q ∈ lw_privs_4, lw_okq q := List.forall_mem_cons.mpr ⟨lw_p48, List.forall_mem_cons.mpr ⟨lw_p49, List.forall_mem_cons.mpr ⟨lw_p50, List.forall_mem_cons.mpr ⟨lw_p51, List.forall_mem_cons.mpr ⟨lw_p52, List.forall_mem_cons.mpr ⟨lw_p53, List.forall_mem_cons.mpr ⟨lw_p54, List.forall_mem_cons.mpr ⟨lw_p55, List.forall_mem_cons.mpr ⟨lw_p56, List.forall_mem_cons.mpr ⟨lw_p57, List.forall_mem_cons.mpr ⟨lw_p58, List.forall_mem_cons.mpr ⟨lw_p59, List.forall_mem_cons.mpr ⟨lw_p60, List.forall_mem_cons.mpr ⟨lw_p61, List.forall_mem_cons.mpr ⟨lw_p62, List.forall_mem_cons.mpr ⟨lw_p63, fun _ h => absurd h List.not_mem_nil⟩⟩⟩⟩⟩⟩⟩⟩⟩⟩⟩⟩⟩⟩⟩⟩
theorem lw_p64 : lw_okq (⟨"CamPiecesModel", "takes", "(I)V"⟩, 35) := ⟨⟨by decide +kernel, by decide +kernel⟩, List.mem_of_getElem? (i := 871) (by decide +kernel), List.mem_of_getElem? (i := 1316) (by decide +kernel), List.mem_of_getElem? (i := 1317) (by decide +kernel)⟩
theorem lw_p65 : lw_okq (⟨"CamPiecesModel", "failsHere", "()V"⟩, 35) := ⟨⟨by decide +kernel, by decide +kernel⟩, List.mem_of_getElem? (i := 871) (by decide +kernel), List.mem_of_getElem? (i := 1320) (by decide +kernel), List.mem_of_getElem? (i := 1321) (by decide +kernel)⟩
theorem lw_p66 : lw_okq (⟨"CamPiecesModel", "figures", "(III)I"⟩, 35) := ⟨⟨by decide +kernel, by decide +kernel⟩, List.mem_of_getElem? (i := 871) (by decide +kernel), List.mem_of_getElem? (i := 1324) (by decide +kernel), List.mem_of_getElem? (i := 1325) (by decide +kernel)⟩
theorem lw_p67 : lw_okq (⟨"CamPiecesModel", "isFigure", "(I)Z"⟩, 35) := ⟨⟨by decide +kernel, by decide +kernel⟩, List.mem_of_getElem? (i := 871) (by decide +kernel), List.mem_of_getElem? (i := 1328) (by decide +kernel), List.mem_of_getElem? (i := 1329) (by decide +kernel)⟩
theorem lw_p68 : lw_okq (⟨"CamPiecesModel", "unfit", "()I"⟩, 35) := ⟨⟨by decide +kernel, by decide +kernel⟩, List.mem_of_getElem? (i := 871) (by decide +kernel), List.mem_of_getElem? (i := 1333) (by decide +kernel), List.mem_of_getElem? (i := 1334) (by decide +kernel)⟩
def lw_privs_5 : List (MethodName × Nat) := [(⟨"CamPiecesModel", "takes", "(I)V"⟩, 35), (⟨"CamPiecesModel", "failsHere", "()V"⟩, 35), (⟨"CamPiecesModel", "figures", "(III)I"⟩, 35), (⟨"CamPiecesModel", "isFigure", "(I)Z"⟩, 35), (⟨"CamPiecesModel", "unfit", "()I"⟩, 35)]
theorem lw_r5 : ∀ q ∈ lw_privs_5, lw_okq q := List.forall_mem_cons.mpr ⟨lw_p64, List.forall_mem_cons.mpr ⟨lw_p65, List.forall_mem_cons.mpr ⟨lw_p66, List.forall_mem_cons.mpr ⟨lw_p67, List.forall_mem_cons.mpr ⟨lw_p68, fun _ h => absurd h List.not_mem_nil⟩⟩⟩⟩⟩
def lw_privs : List (MethodName × Nat) := lw_privs_1 ++ (lw_privs_2 ++ (lw_privs_3 ++ (lw_privs_4 ++ (lw_privs_5))))
def lw_tbl : List Cond := k2_sels lw_privs ++ tables_1
theorem lw_privs_ok : ∀ q ∈ lw_privs, lw_okq q := by
  show ∀ q ∈ lw_privs_1 ++ (lw_privs_2 ++ (lw_privs_3 ++ (lw_privs_4 ++ (lw_privs_5)))), lw_okq q
  exact List.forall_mem_append.mpr ⟨lw_r1, List.forall_mem_append.mpr ⟨lw_r2, List.forall_mem_append.mpr ⟨lw_r3, List.forall_mem_append.mpr ⟨lw_r4, lw_r5⟩⟩⟩⟩
end
section
/-! names of the classes, their fields in the order of the slots (out of the printed names), the words of the tables that a contract carries -/
def zTB : List Cond := lw_tbl.filter goodWord
theorem zTB_of {w : Cond} (i : Nat) (h : tables_1[i]? = some w) (g : goodWord w = true) : w ∈ zTB := List.mem_filter.mpr ⟨List.mem_append_right _ (List.mem_of_getElem? h), g⟩
theorem zTB_ofS {w : Cond} (i : Nat) (h : (k2_sels lw_privs)[i]? = some w) (g : goodWord w = true) : w ∈ zTB := List.mem_filter.mpr ⟨List.mem_append_left _ (List.mem_of_getElem? h), g⟩
theorem zTB_in {w : Cond} (h : w ∈ zTB) : w ∈ lw_tbl := (List.mem_filter.mp h).1
theorem zTB_good {w : Cond} (h : w ∈ zTB) : goodWord w = true := (List.mem_filter.mp h).2
theorem zTB_list {ws : List Cond} (ps : List Nat) (hp : ws = ps.filterMap (fun i => tables_1[i]?)) (h : ws.all goodWord = true) : ∀ w ∈ ws, w ∈ zTB := by
  intro w hw
  have h1 := List.all_eq_true.mp h w hw
  rw [hp] at hw
  obtain ⟨i, -, hi⟩ := List.mem_filterMap.mp hw
  exact zTB_of i hi h1
def zIsNest : Cond → Bool
  | .fieldLinkNest .. => true
  | .methodLinkNest .. => true
  | _ => false
def zNW : List Cond := tables_1.filter zIsNest
theorem zNW_of {w : Cond} (i : Nat) (h : tables_1[i]? = some w) (g : zIsNest w = true) : w ∈ zNW := List.mem_filter.mpr ⟨List.mem_of_getElem? h, g⟩
theorem zNW_in {w : Cond} (h : w ∈ zNW) : w ∈ lw_tbl := List.mem_append_right _ (List.mem_filter.mp h).1
theorem zNW_nest {w : Cond} (h : w ∈ zNW) : zIsNest w = true := (List.mem_filter.mp h).2

def RX0 : String := "CamPieces$Range"
def TX0 : u_T := fun k => match k with
  | 0 => ("CamPieces$Range", "least", "J", false)
  | 1 => ("CamPieces$Range", "most", "J", false)
  | _ => ("CamPieces$Range", "isEmpty", "Z", false)
def tyX0 : Nat → FieldType := fun k => match k with
  | 0 => .long
  | 1 => .long
  | _ => .boolean
theorem nmX0 : ∀ a, a < 3 → ∀ b, b < 3 → a ≠ b → (TX0 a).2.1 ≠ (TX0 b).2.1 := by decide +kernel
theorem tyX0_ok : ∀ k, k < 3 → parseFieldDescriptor (TX0 k).2.2.1 = some (tyX0 k) := by decide +kernel
theorem inX0 : ∀ w ∈ u_ws RX0 TX0 3, w ∈ zTB := zTB_list [156, 158, 160] (by decide +kernel) (by decide +kernel)
def RX1 : String := "CamPieces$Ratio"
def TX1 : u_T := fun k => match k with
  | 0 => ("CamPieces$Ratio", "above", "J", false)
  | _ => ("CamPieces$Ratio", "below", "J", false)
def tyX1 : Nat → FieldType := fun k => match k with
  | 0 => .long
  | _ => .long
theorem nmX1 : ∀ a, a < 2 → ∀ b, b < 2 → a ≠ b → (TX1 a).2.1 ≠ (TX1 b).2.1 := by decide +kernel
theorem tyX1_ok : ∀ k, k < 2 → parseFieldDescriptor (TX1 k).2.2.1 = some (tyX1 k) := by decide +kernel
theorem inX1 : ∀ w ∈ u_ws RX1 TX1 2, w ∈ zTB := zTB_list [173, 175] (by decide +kernel) (by decide +kernel)
def RX2 : String := "CamPieces$Reader"
def TX2 : u_T := fun k => match k with
  | 0 => ("CamPieces$Reader", "bytes", "[I", true)
  | 1 => ("CamPieces$Reader", "size", "I", false)
  | 2 => ("CamPieces$Reader", "read", "LCamPieces$Train;", true)
  | 3 => ("CamPieces$Reader", "place", "I", false)
  | 4 => ("CamPieces$Reader", "pieces", "I", false)
  | 5 => ("CamPieces$Reader", "fault", "I", false)
  | 6 => ("CamPieces$Reader", "unfit", "I", false)
  | _ => ("CamPieces$Reader", "cause", "I", false)
def tyX2 : Nat → FieldType := fun k => match k with
  | 0 => .array .int
  | 1 => .int
  | 2 => .object "CamPieces$Train"
  | 3 => .int
  | 4 => .int
  | 5 => .int
  | 6 => .int
  | _ => .int
theorem nmX2 : ∀ a, a < 8 → ∀ b, b < 8 → a ≠ b → (TX2 a).2.1 ≠ (TX2 b).2.1 := by decide +kernel
theorem tyX2_ok : ∀ k, k < 8 → parseFieldDescriptor (TX2 k).2.2.1 = some (tyX2 k) := by decide +kernel
theorem inX2 : ∀ w ∈ u_ws RX2 TX2 8, w ∈ zTB := zTB_list [65, 67, 69, 71, 73, 75, 77, 79] (by decide +kernel) (by decide +kernel)
def RX3 : String := "CamPieces$Rows"
def TX3 : u_T := fun k => match k with
  | 0 => ("CamPieces$Rows", "places", "[J", true)
  | _ => ("CamPieces$Rows", "sizes", "[I", true)
def tyX3 : Nat → FieldType := fun k => match k with
  | 0 => .array .long
  | _ => .array .int
theorem nmX3 : ∀ a, a < 2 → ∀ b, b < 2 → a ≠ b → (TX3 a).2.1 ≠ (TX3 b).2.1 := by decide +kernel
theorem tyX3_ok : ∀ k, k < 2 → parseFieldDescriptor (TX3 k).2.2.1 = some (tyX3 k) := by decide +kernel
theorem inX3 : ∀ w ∈ u_ws RX3 TX3 2, w ∈ zTB := zTB_list [90, 92] (by decide +kernel) (by decide +kernel)
def RX4 : String := "CamPieces$Spot"
def TX4 : u_T := fun k => match k with
  | 0 => ("CamPieces$Spot", "below", "J", false)
  | 1 => ("CamPieces$Spot", "gain", "J", false)
  | 2 => ("CamPieces$Spot", "slope", "J", false)
  | 3 => ("CamPieces$Spot", "bend", "J", false)
  | _ => ("CamPieces$Spot", "base", "J", false)
def tyX4 : Nat → FieldType := fun k => match k with
  | 0 => .long
  | 1 => .long
  | 2 => .long
  | 3 => .long
  | _ => .long
theorem nmX4 : ∀ a, a < 5 → ∀ b, b < 5 → a ≠ b → (TX4 a).2.1 ≠ (TX4 b).2.1 := by decide +kernel
theorem tyX4_ok : ∀ k, k < 5 → parseFieldDescriptor (TX4 k).2.2.1 = some (tyX4 k) := by decide +kernel
theorem inX4 : ∀ w ∈ u_ws RX4 TX4 5, w ∈ zTB := zTB_list [110, 112, 114, 116, 118] (by decide +kernel) (by decide +kernel)
def RX5 : String := "CamPieces$Train"
def TX5 : u_T := fun k => match k with
  | 0 => ("CamPieces$Train", "kinds", "[I", true)
  | 1 => ("CamPieces$Train", "longs", "[I", true)
  | 2 => ("CamPieces$Train", "rises", "[I", true)
  | _ => ("CamPieces$Train", "size", "I", false)
def tyX5 : Nat → FieldType := fun k => match k with
  | 0 => .array .int
  | 1 => .array .int
  | 2 => .array .int
  | _ => .int
theorem nmX5 : ∀ a, a < 4 → ∀ b, b < 4 → a ≠ b → (TX5 a).2.1 ≠ (TX5 b).2.1 := by decide +kernel
theorem tyX5_ok : ∀ k, k < 4 → parseFieldDescriptor (TX5 k).2.2.1 = some (tyX5 k) := by decide +kernel
theorem inX5 : ∀ w ∈ u_ws RX5 TX5 4, w ∈ zTB := zTB_list [35, 37, 39, 41] (by decide +kernel) (by decide +kernel)
def RX6 : String := "CamPieces$Walk"
def TX6 : u_T := fun k => match k with
  | 0 => ("CamPieces$Walk", "angle", "I", false)
  | 1 => ("CamPieces$Walk", "index", "I", false)
  | 2 => ("CamPieces$Walk", "begin", "I", false)
  | 3 => ("CamPieces$Walk", "base", "I", false)
  | 4 => ("CamPieces$Walk", "u", "I", false)
  | _ => ("CamPieces$Walk", "isClosed", "Z", false)
def tyX6 : Nat → FieldType := fun k => match k with
  | 0 => .int
  | 1 => .int
  | 2 => .int
  | 3 => .int
  | 4 => .int
  | _ => .boolean
theorem nmX6 : ∀ a, a < 6 → ∀ b, b < 6 → a ≠ b → (TX6 a).2.1 ≠ (TX6 b).2.1 := by decide +kernel
theorem tyX6_ok : ∀ k, k < 6 → parseFieldDescriptor (TX6 k).2.2.1 = some (tyX6 k) := by decide +kernel
theorem inX6 : ∀ w ∈ u_ws RX6 TX6 6, w ∈ zTB := zTB_list [134, 136, 138, 140, 142, 144] (by decide +kernel) (by decide +kernel)
def RX7 : String := "CamPieces"
def TX7 : u_T := fun k => match k with
  | 0 => ("CamPieces", "train", "LCamPieces$Train;", true)
  | 1 => ("CamPieces", "settings", "[I", true)
  | 2 => ("CamPieces", "pictured", "LCamPieces$Train;", true)
  | 3 => ("CamPieces", "picturedSettings", "[I", true)
  | 4 => ("CamPieces", "isPictured", "Z", false)
  | 5 => ("CamPieces", "reader", "LCamPieces$Reader;", true)
  | 6 => ("CamPieces", "latestCause", "I", false)
  | 7 => ("CamPieces", "rows", "LCamPieces$Rows;", true)
  | 8 => ("CamPieces", "spot", "LCamPieces$Spot;", true)
  | 9 => ("CamPieces", "walk", "LCamPieces$Walk;", true)
  | 10 => ("CamPieces", "range", "LCamPieces$Range;", true)
  | 11 => ("CamPieces", "ratio", "LCamPieces$Ratio;", true)
  | 12 => ("CamPieces", "ratioAhead", "LCamPieces$Ratio;", true)
  | 13 => ("CamPieces", "samples", "[J", true)
  | _ => ("CamPieces", "corners", "[I", true)
def tyX7 : Nat → FieldType := fun k => match k with
  | 0 => .object "CamPieces$Train"
  | 1 => .array .int
  | 2 => .object "CamPieces$Train"
  | 3 => .array .int
  | 4 => .boolean
  | 5 => .object "CamPieces$Reader"
  | 6 => .int
  | 7 => .object "CamPieces$Rows"
  | 8 => .object "CamPieces$Spot"
  | 9 => .object "CamPieces$Walk"
  | 10 => .object "CamPieces$Range"
  | 11 => .object "CamPieces$Ratio"
  | 12 => .object "CamPieces$Ratio"
  | 13 => .array .long
  | _ => .array .int
theorem nmX7 : ∀ a, a < 15 → ∀ b, b < 15 → a ≠ b → (TX7 a).2.1 ≠ (TX7 b).2.1 := by decide +kernel
theorem tyX7_ok : ∀ k, k < 15 → parseFieldDescriptor (TX7 k).2.2.1 = some (tyX7 k) := by decide +kernel
theorem inX7 : ∀ w ∈ u_ws RX7 TX7 15, w ∈ zTB := zTB_list [204, 206, 208, 210, 212, 214, 216, 218, 220, 222, 224, 226, 228, 230, 232] (by decide +kernel) (by decide +kernel)
def RX8 : String := "CamPiecesModel"
def TX8 : u_T := fun k => match k with
  | 0 => ("CamPiecesModel", "pieces", "I", false)
  | 1 => ("CamPiecesModel", "kinds", "[I", true)
  | 2 => ("CamPiecesModel", "lengths", "[I", true)
  | 3 => ("CamPiecesModel", "rises", "[I", true)
  | 4 => ("CamPiecesModel", "numbers", "[I", true)
  | 5 => ("CamPiecesModel", "leasts", "[I", true)
  | 6 => ("CamPiecesModel", "mosts", "[I", true)
  | 7 => ("CamPiecesModel", "here", "I", false)
  | 8 => ("CamPiecesModel", "far", "I", false)
  | 9 => ("CamPiecesModel", "lift", "J", false)
  | 10 => ("CamPiecesModel", "slope", "J", false)
  | 11 => ("CamPiecesModel", "bend", "J", false)
  | 12 => ("CamPiecesModel", "over", "J", false)
  | 13 => ("CamPiecesModel", "above", "J", false)
  | 14 => ("CamPiecesModel", "below", "J", false)
  | 15 => ("CamPiecesModel", "kindsWere", "[I", true)
  | 16 => ("CamPiecesModel", "samples", "[J", true)
  | 17 => ("CamPiecesModel", "tape", "[I", true)
  | 18 => ("CamPiecesModel", "taped", "I", false)
  | 19 => ("CamPiecesModel", "at", "I", false)
  | 20 => ("CamPiecesModel", "fault", "I", false)
  | 21 => ("CamPiecesModel", "why", "I", false)
  | 22 => ("CamPiecesModel", "cause", "I", false)
  | 23 => ("CamPiecesModel", "camPieces", "I", false)
  | 24 => ("CamPiecesModel", "camKinds", "[I", true)
  | 25 => ("CamPiecesModel", "camLengths", "[I", true)
  | 26 => ("CamPiecesModel", "camRises", "[I", true)
  | 27 => ("CamPiecesModel", "words", "[I", true)
  | 28 => ("CamPiecesModel", "sizes", "[I", true)
  | 29 => ("CamPiecesModel", "items", "[J", true)
  | 30 => ("CamPiecesModel", "imaged", "I", false)
  | 31 => ("CamPiecesModel", "imageKinds", "[I", true)
  | 32 => ("CamPiecesModel", "imageLengths", "[I", true)
  | 33 => ("CamPiecesModel", "imageRises", "[I", true)
  | _ => ("CamPiecesModel", "imageNumbers", "[I", true)
def tyX8 : Nat → FieldType := fun k => match k with
  | 0 => .int
  | 1 => .array .int
  | 2 => .array .int
  | 3 => .array .int
  | 4 => .array .int
  | 5 => .array .int
  | 6 => .array .int
  | 7 => .int
  | 8 => .int
  | 9 => .long
  | 10 => .long
  | 11 => .long
  | 12 => .long
  | 13 => .long
  | 14 => .long
  | 15 => .array .int
  | 16 => .array .long
  | 17 => .array .int
  | 18 => .int
  | 19 => .int
  | 20 => .int
  | 21 => .int
  | 22 => .int
  | 23 => .int
  | 24 => .array .int
  | 25 => .array .int
  | 26 => .array .int
  | 27 => .array .int
  | 28 => .array .int
  | 29 => .array .long
  | 30 => .int
  | 31 => .array .int
  | 32 => .array .int
  | 33 => .array .int
  | _ => .array .int
theorem nmX8 : ∀ a, a < 35 → ∀ b, b < 35 → a ≠ b → (TX8 a).2.1 ≠ (TX8 b).2.1 := by decide +kernel
theorem tyX8_ok : ∀ k, k < 35 → parseFieldDescriptor (TX8 k).2.2.1 = some (tyX8 k) := by decide +kernel
theorem inX8 : ∀ w ∈ u_ws RX8 TX8 35, w ∈ zTB := zTB_list [911, 913, 915, 917, 919, 921, 923, 925, 927, 929, 931, 933, 935, 937, 939, 941, 943, 945, 947, 949, 951, 953, 955, 957, 959, 961, 963, 965, 967, 969, 971, 973, 975, 977, 979] (by decide +kernel) (by decide +kernel)
abbrev zCls : List vw_C := [(RX0, TX0, 3), (RX1, TX1, 2), (RX2, TX2, 8), (RX3, TX3, 2), (RX4, TX4, 5), (RX5, TX5, 4), (RX6, TX6, 6), (RX7, TX7, 15), (RX8, TX8, 35)]
end
section
/-! A SMALL MACHINE OVER THE KIT: worlds by number. A world is a list of cells; a reference is a cell's place in it; 'ad' says where each lies. Z: the method, at this instruction, with these locals, this stack and this world, comes to its end with Q. -/
abbrev zRo : Type := (Nat × (Nat → Int32)) ⊕ ((Nat × (Nat → Int32)) ⊕ ((Nat × Nat) ⊕ ((List (String × String × String × Value)) ⊕ Unit)))
abbrev zE : Type := (Nat × List Value) ⊕ ((Nat × (Nat → Int32)) ⊕ ((Nat × (Nat → Int64)) ⊕ zRo))
abbrev zO (c : Nat) (fs : List Value) : zE := .inl (c, fs)
abbrev zI (n : Nat) (f : Nat → Int32) : zE := .inr (.inl (n, f))
abbrev zL (n : Nat) (f : Nat → Int64) : zE := .inr (.inr (.inl (n, f)))
abbrev zR (n : Nat) (f : Nat → Int32) : zE := .inr (.inr (.inr (.inl (n, f))))
abbrev zRb (n : Nat) (f : Nat → Int32) : zE := .inr (.inr (.inr (.inr (.inl (n, f)))))
abbrev zS (k j : Nat) : zE := .inr (.inr (.inr (.inr (.inr (.inl (k, j))))))
abbrev zT (l : List (String × String × String × Value)) : zE := .inr (.inr (.inr (.inr (.inr (.inr (.inl l))))))
abbrev zU : zE := .inr (.inr (.inr (.inr (.inr (.inr (.inr ()))))))
def zrw : zE → Bool
  | .inl _ => true
  | .inr (.inl _) => true
  | .inr (.inr (.inl _)) => true
  | .inr (.inr (.inr _)) => false
def zv (ad : Nat → Nat) : Value → Value
  | .ref i => .ref (ad i)
  | v => v
def zq (ad : Nat → Nat) (q : Nat × Value) : Nat × Value := (q.1, zv ad q.2)
/-- the texts of the String constants, and their entries in the Reader's file -/
def zStr : List (String × Nat) := [("dwell", 98), ("line", 102), ("start", 104), ("stop", 106), ("cubic", 108), ("quintic", 110)]
def zat (D : va_G) (cI cL : ClassId) (ad : Nat → Nat) (A : Nat → Prop) (U : State) (H : Heap) (a : Nat) : zE → Prop
  | .inl o => A a ∧ ∃ r : vw_C, zCls[o.1]? = some r ∧ t_OB a (D.1 o.1) r.2.2 (D.2 o.1) H (vp_V (o.2.map (zv ad)))
  | .inr (.inl x) => A a ∧ H[a]? = some (vp_cell cI (x.1, .inl x.2))
  | .inr (.inr (.inl x)) => A a ∧ H[a]? = some (vp_cell cL (x.1, .inr (.inl x.2)))
  | .inr (.inr (.inr (.inl x))) => va_T .int a x.1 (fun j => .int (x.2 j)) A U H
  | .inr (.inr (.inr (.inr (.inl x)))) => va_T .byte a x.1 (fun j => .int (x.2 j)) A U H
  | .inr (.inr (.inr (.inr (.inr (.inl x))))) => (∀ st : String × Nat, zStr[x.1]? = some st → vk_R "CamPieces$Reader" st.2 st.1 a U) ∧ va_O "java/lang/String" a A U H ∧ va_OF "java/lang/String" "coder" "B" (.int 0) a A U H ∧ va_OF "java/lang/String" "value" "[B" (.ref (ad x.2)) a A U H
  | .inr (.inr (.inr (.inr (.inr (.inr (.inl l)))))) => (∀ q ∈ l, va_Z q.1 q.2.1 q.2.2.1 (zv ad q.2.2.2) A U H) ∧ a < H.size ∧ ¬ A a
  | .inr (.inr (.inr (.inr (.inr (.inr (.inr _)))))) => a < H.size ∧ ¬ A a
theorem zat_lt {D : va_G} {cI cL : ClassId} {ad : Nat → Nat} {A : Nat → Prop} {U : State} {H : Heap} {a : Nat} {e : zE} (h : zat D cI cL ad A U H a e) : a < H.size := by
  rcases e with o | x | x | x | x | x | x | x
  · obtain ⟨-, r, -, cell, h2, -⟩ := h
    exact (Array.getElem?_eq_some_iff.mp h2).1
  · exact (Array.getElem?_eq_some_iff.mp h.2).1
  · exact (Array.getElem?_eq_some_iff.mp h.2).1
  · obtain ⟨cell, h1, -⟩ := h
    exact (Array.getElem?_eq_some_iff.mp h1).1
  · obtain ⟨cell, h1, -⟩ := h
    exact (Array.getElem?_eq_some_iff.mp h1).1
  · obtain ⟨-, ⟨cell, h1, -⟩, -⟩ := h
    exact (Array.getElem?_eq_some_iff.mp h1).1
  · exact h.2.1
  · exact h.1
theorem zat_in {D : va_G} {cI cL : ClassId} {ad : Nat → Nat} {A : Nat → Prop} {U : State} {H : Heap} {a : Nat} {e : zE} (h : zat D cI cL ad A U H a e) (he : zrw e = true) : A a := by
  rcases e with o | x | x | x | x | x | x | x
  · exact h.1
  · exact h.1
  · exact h.1
  all_goals (cases he)
theorem zat_out {D : va_G} {cI cL : ClassId} {ad : Nat → Nat} {A : Nat → Prop} {U : State} {H : Heap} {a : Nat} {e : zE} (h : zat D cI cL ad A U H a e) (he : zrw e = false) : ¬ A a := by
  rcases e with o | x | x | x | x | x | x | x
  · cases he
  · cases he
  · cases he
  · exact h.out
  · exact h.out
  · obtain ⟨-, ⟨cell, h1, h2, h3, h4⟩, -⟩ := h
    exact h4
  · exact h.2.2
  · exact h.2
/-- the world goes on through a heap that keeps what it doesn't own -/
theorem zat_kept {D : va_G} {cI cL : ClassId} {ad : Nat → Nat} {A : Nat → Prop} {U : State} {H H1 : Heap} {a : Nat} {e : zE} (h : zat D cI cL ad A U H a e) (hz : H.size ≤ H1.size) (hq : ∀ q : Nat, q < H.size → ¬ A q → H1[q]? = H[q]?) (ha : zrw e = true → H1[a]? = H[a]?) : zat D cI cL ad A U H1 a e := by
  rcases e with o | x | x | x | x | x | x | x
  · obtain ⟨h0, r, h1, h2⟩ := h
    exact ⟨h0, r, h1, h2.kept (ha rfl)⟩
  · exact ⟨h.1, (ha rfl).trans h.2⟩
  · exact ⟨h.1, (ha rfl).trans h.2⟩
  · exact va_T.kept h hq
  · exact va_T.kept h hq
  · exact ⟨h.1, h.2.1.kept hq, h.2.2.1.kept hq, h.2.2.2.kept hq⟩
  · exact ⟨fun q hq2 => (h.1 q hq2).kept hq, Nat.lt_of_lt_of_le h.2.1 hz, h.2.2⟩
  · exact ⟨Nat.lt_of_lt_of_le h.1 hz, h.2⟩
theorem zat_moved {D : va_G} {cI cL : ClassId} {ad : Nat → Nat} {A : Nat → Prop} {u U : State} {H : Heap} {a : Nat} {e : zE} (hW : u.WarmedH U.vm) (h : zat D cI cL ad A u H a e) : zat D cI cL ad A U H a e := by
  rcases e with o | x | x | x | x | x | x | x
  · exact h
  · exact h
  · exact h
  · exact va_T.moved hW.alike h
  · exact va_T.moved hW.alike h
  · exact ⟨fun st hst => (h.1 st hst).warm hW, h.2.1.moved hW.alike, h.2.2.1.moved hW.alike, h.2.2.2.moved hW.alike⟩
  · exact ⟨fun q hq2 => (h.1 q hq2).moved hW.alike, h.2⟩
  · exact h
/-- the same tables, another state -/
theorem zat_same {D : va_G} {cI cL : ClassId} {ad : Nat → Nat} {A : Nat → Prop} {u U : State} {H : Heap} {a : Nat} {e : zE} (hvm : u.vm = U.vm) (h : zat D cI cL ad A u H a e) : zat D cI cL ad A U H a e := by
  have hA : u.vm.Alike U.vm := by rw [← hvm]; exact Vm.Alike.refl u.vm
  rcases e with o | x | x | x | x | x | x | x
  · exact h
  · exact h
  · exact h
  · exact va_T.moved hA h
  · exact va_T.moved hA h
  · exact ⟨fun st hst => (h.1 st hst).same hvm.symm, h.2.1.moved hA, h.2.2.1.moved hA, h.2.2.2.moved hA⟩
  · exact ⟨fun q hq2 => (h.1 q hq2).moved hA, h.2⟩
  · exact h
/-- another set of the cells that may be written -/
theorem zat_area {D : va_G} {cI cL : ClassId} {ad : Nat → Nat} {A B : Nat → Prop} {U : State} {H : Heap} {a : Nat} {e : zE} (h : zat D cI cL ad A U H a e) (hr : ∀ q, q < H.size → ¬ A q → ¬ B q) (ha : zrw e = true → B a) : zat D cI cL ad B U H a e := by
  rcases e with o | x | x | x | x | x | x | x
  · exact ⟨ha rfl, h.2⟩
  · exact ⟨ha rfl, h.2⟩
  · exact ⟨ha rfl, h.2⟩
  · obtain ⟨cell, h1, h2, h3, h4, h5, h6, h7⟩ := h
    exact ⟨cell, h1, h2, h3, h4, h5, h6, hr _ (Array.getElem?_eq_some_iff.mp h1).1 h7⟩
  · obtain ⟨cell, h1, h2, h3, h4, h5, h6, h7⟩ := h
    exact ⟨cell, h1, h2, h3, h4, h5, h6, hr _ (Array.getElem?_eq_some_iff.mp h1).1 h7⟩
  · obtain ⟨h0, ⟨c1, p1, p2, p3, p4⟩, ⟨cf, k, i, f, c2, q1, q2, q3, q4, q5, q6⟩, ⟨cf', k', i', f', c3, r1, r2, r3, r4, r5, r6⟩⟩ := h
    exact ⟨h0, ⟨c1, p1, p2, p3, hr _ (Array.getElem?_eq_some_iff.mp p1).1 p4⟩, ⟨cf, k, i, f, c2, q1, q2, q3, q4, q5, hr _ (Array.getElem?_eq_some_iff.mp q3).1 q6⟩, ⟨cf', k', i', f', c3, r1, r2, r3, r4, r5, hr _ (Array.getElem?_eq_some_iff.mp r3).1 r6⟩⟩
  · refine ⟨fun q hq2 => ?_, h.2.1, hr _ h.2.1 h.2.2⟩
    obtain ⟨cf, kf, fi, f, a', cell, g1, g2, g3, g4, g5, g6, g7, g8⟩ := h.1 q hq2
    exact ⟨cf, kf, fi, f, a', cell, g1, g2, g3, g4, g5, g6, g7, hr _ (Array.getElem?_eq_some_iff.mp g5).1 g8⟩
  · exact ⟨h.1, hr _ h.1 h.2⟩
def zW (D : va_G) (cI cL : ClassId) (ad : Nat → Nat) (A : Nat → Prop) (U : State) (H : Heap) (mem : List zE) : Prop :=
  (∀ (k : Nat) (e : zE), mem[k]? = some e → zat D cI cL ad A U H (ad k) e) ∧ ∀ (i j : Nat) (x y : zE), mem[i]? = some x → mem[j]? = some y → zrw x = true → zrw y = true → ad i = ad j → i = j
theorem zW.set {D : va_G} {cI cL : ClassId} {ad : Nat → Nat} {A : Nat → Prop} {U : State} {H H1 : Heap} {mem : List zE} {k : Nat} {e0 e1 : zE} (h : zW D cI cL ad A U H mem) (hk : mem[k]? = some e0) (h0 : zrw e0 = true) (he : zat D cI cL ad A U H1 (ad k) e1) (h1 : zrw e1 = true) (z : H1.size = H.size) (oq : ∀ q : Nat, q ≠ ad k → H1[q]? = H[q]?) : zW D cI cL ad A U H1 (mem.set k e1) := by
  have hl := (List.getElem?_eq_some_iff.mp hk).1
  have hA : A (ad k) := zat_in (h.1 k e0 hk) h0
  refine ⟨fun j e hj => ?_, fun i j x y hi hj hx hy hxy => ?_⟩
  · by_cases hjk : j = k
    · subst hjk
      rw [List.getElem?_set_self hl] at hj
      cases hj
      exact he
    · rw [List.getElem?_set_ne (Ne.symm hjk)] at hj
      refine zat_kept (h.1 j e hj) (by omega) (fun q _ hq => oq q (fun z => hq (z ▸ hA))) (fun hr => oq _ (fun z => hjk (h.2 j k e e0 hj hk hr h0 z)))
  · have key : ∀ (n : Nat) (w : zE), (mem.set k e1)[n]? = some w → ∃ w0, mem[n]? = some w0 ∧ (zrw w = true → zrw w0 = true) := by
      intro n w hn
      by_cases hnk : n = k
      · subst hnk
        exact ⟨e0, hk, fun _ => h0⟩
      · rw [List.getElem?_set_ne (Ne.symm hnk)] at hn
        exact ⟨w, hn, fun q => q⟩
    obtain ⟨x0, a1, a2⟩ := key i x hi
    obtain ⟨y0, b1, b2⟩ := key j y hj
    exact h.2 i j x0 y0 a1 b1 (a2 hx) (b2 hy) hxy
theorem zW.moved {D : va_G} {cI cL : ClassId} {ad : Nat → Nat} {A : Nat → Prop} {u U : State} {H : Heap} {mem : List zE} (hW : u.WarmedH U.vm) (h : zW D cI cL ad A u H mem) : zW D cI cL ad A U H mem := ⟨fun k e hk => zat_moved hW (h.1 k e hk), h.2⟩
theorem zW.same {D : va_G} {cI cL : ClassId} {ad : Nat → Nat} {A : Nat → Prop} {u U : State} {H : Heap} {mem : List zE} (hvm : u.vm = U.vm) (h : zW D cI cL ad A u H mem) : zW D cI cL ad A U H mem := ⟨fun k e hk => zat_same hvm (h.1 k e hk), h.2⟩
/-- a method: its name, its bytes, how many locals, its answer's type, its instructions (place, instruction, length, next place) -/
abbrev zM : Type := MethodName × ByteArray × Nat × Option FieldType × List (Nat × Instr × Nat × Nat)
/-- launch, method, room, cells and slots that it may make, whether it makes any, what holds at its end -/
abbrev zX : Type := Launch × zM × Room × (Nat × Nat) × Bool × (Option Value → List zE → Prop)
abbrev zX.M (X : zX) : zM := X.2.1
abbrev zX.R (X : zX) : Room := X.2.2.1
abbrev zX.mc (X : zX) : Nat := X.2.2.2.1.1
abbrev zX.ms (X : zX) : Nat := X.2.2.2.1.2
abbrev zX.al (X : zX) : Bool := X.2.2.2.2.1
abbrev zX.Q (X : zX) : Option Value → List zE → Prop := X.2.2.2.2.2
abbrev zX.I (X : zX) : List (Nat × Instr × Nat × Nat) := X.2.1.2.2.2.2
def zDec (M : zM) : Prop := ∀ q ∈ M.2.2.2.2, decode M.2.1 q.1 = .ok (q.2.1, q.2.2.1) ∧ q.1 + q.2.2.1 = q.2.2.2
def zAg (al : Bool) (n0 : Nat) (ad ad0 : Nat → Nat) : Prop := if al = true then ∀ i, i < n0 → ad i = ad0 i else ad = ad0
theorem zAg.rf {al : Bool} {n0 : Nat} {ad : Nat → Nat} : zAg al n0 ad ad := by
  unfold zAg
  split
  · exact fun _ _ => rfl
  · rfl
theorem zAg.at {al : Bool} {n0 : Nat} {ad ad0 : Nat → Nat} (h : zAg al n0 ad ad0) (i : Nat) (hi : i < n0) : ad i = ad0 i := by
  unfold zAg at h
  split at h
  · exact h i hi
  · rw [h]
def zQ (al : Bool) (Q : Option Value → List zE → Prop) (D : va_G) (cI cL : ClassId) (A : Nat → Prop) (ad0 : Nat → Nat) (n0 : Nat) : Array Value → State → Outcome → State → Prop := fun _ st oc t =>
  ∃ (r : Option Value) (mem : List zE) (ad : Nat → Nat), oc = .returned (r.map (zv ad)) ∧ Q r mem ∧ zAg al n0 ad ad0 ∧ n0 ≤ mem.length ∧ zW D cI cL ad A t t.heap mem ∧ va_F A st t
def zBody (M : zM) (D : va_G) (cI cL : ClassId) (p : Program) (s : State) (m : MethodId) (args : Array Value) (meth : Method) (c : Code) : Prop :=
  p.tables.exec = Jvm.exec ∧ c.code = M.2.1 ∧ c.maxLocals = M.2.2.1 ∧ meth.sig.returnType = M.2.2.2.1 ∧ meth.locks = false ∧ s.vm.findClass M.1.cls = some m.cls ∧ meth.name = M.1.name ∧ (∀ w ∈ zTB, w.before args s = true) ∧ (∀ w ∈ zNW, va_Nw w s) ∧ va_K D zCls [(cI, .int), (cL, .long)] s
def Z (X : zX) (kc ks : Nat) (mem : List zE) (pc : Nat) (lv : List (Nat × Value)) (st : List Value) : Prop :=
  ∀ (D : va_G) (cI cL : ClassId) (ad ad0 : Nat → Nat) (n0 : Nat) (A : Nat → Prop) (p : Program) (e : Env) (s : State) (m : MethodId) (args : Array Value) (below : List Frame) (meth : Method) (c : Code) (H : Heap) (locs : List Loc) (ls : Array Slot),
    zDec X.M → zBody X.M D cI cL p s m args meth c → zW D cI cL ad A s H mem → zAg X.al n0 ad ad0 → n0 ≤ mem.length → (∀ q, s.heap.size ≤ q → A q) → va_S A s.heap H locs → lv_has ls X.M.2.2.1 (lv.map (zq ad)) →
    W p X.1 e X.R s m args below meth c H locs kc ks (MQ below (zQ X.al X.Q D cI cL A ad0 n0) args s X.mc X.ms A) (F0 m pc ls (st.map (zv ad)))
/-- the cells that a method may write: those of its world that aren't read-only, and those that it makes -/
def zA (mem : List zE) (ad : Nat → Nat) (sz : Nat) : Nat → Prop := fun q => (∃ (i : Nat) (e : zE), mem[i]? = some e ∧ zrw e = true ∧ ad i = q) ∨ sz ≤ q
def zws (M : zM) : List Cond := .code M.1 M.2.1 M.2.2.1 M.2.2.2.1 :: zTB
/-- the contract of a method -/
def Con (l : Launch) (M : zM) (rm : Room) (mc ms : Nat) (al : Bool) (args : List Value) (mem : List zE) (Q : Option Value → List zE → Prop) : Prop :=
  ∀ (D : va_G) (cI cL : ClassId) (ad0 : Nat → Nat) (sz : Nat), Met l M.1 (zws M) rm (va_Pc (args.map (zv ad0)) (fun U => U.heap.size = sz ∧ zW D cI cL ad0 (zA mem ad0 sz) U U.heap mem ∧ va_K D zCls [(cI, .int), (cL, .long)] U ∧ ∀ w ∈ zNW, va_Nw w U)) (zQ al Q D cI cL (zA mem ad0 sz) ad0 mem.length) mc ms (zA mem ad0 sz)
theorem zv_cat (ad : Nat → Nat) (v : Value) : (zv ad v).category = v.category := by cases v <;> rfl
theorem lg_sl_zv (ad : Nat → Nat) : ∀ vs : List Value, (lg_sl (vs.map (zv ad))).length = (lg_sl vs).length := by
  intro vs
  induction vs with
  | nil => rfl
  | cons v vs ih =>
    simp only [List.map_cons, lg_sl, List.flatMap_cons, List.length_append] at ih ⊢
    rw [ih, zv_cat]
    congr 1
    split <;> rfl
theorem lv_args_zv (ad : Nat → Nat) : ∀ (vs : List Value) (i : Nat), lv_args i (vs.map (zv ad)) = (lv_args i vs).map (zq ad) := by
  intro vs
  induction vs with
  | nil => intro i; rfl
  | cons v vs ih =>
    intro i
    simp only [List.map_cons, lv_args]
    rw [ih, zv_cat]
    rfl
end
section
/-! whole numbers as Java's ints and longs; the rows of Z, one an instruction, in whole numbers -/
def iI (x : Int) : Int32 := Int32.ofInt x
def lI (x : Int) : Int64 := Int64.ofInt x
abbrev inI (x : Int) : Prop := -2147483648 ≤ x ∧ x ≤ 2147483647
abbrev inL (x : Int) : Prop := -9223372036854775808 ≤ x ∧ x ≤ 9223372036854775807
theorem iI_t {x : Int} (h : inI x) : (iI x).toInt = x := by
  unfold iI; rw [Int32.toInt_ofInt]; exact Int.bmod_eq_of_le (by simp; omega) (by simp; omega)
theorem lI_t {x : Int} (h : inL x) : (lI x).toInt = x := by
  unfold lI; rw [Int64.toInt_ofInt]; exact Int.bmod_eq_of_le (by simp; omega) (by simp; omega)
theorem iI_o (x : Int32) : iI x.toInt = x := by unfold iI; exact Int32.ofInt_toInt x
theorem lI_o (x : Int64) : lI x.toInt = x := by unfold lI; exact Int64.ofInt_toInt x
theorem iI_in (x : Int32) : inI x.toInt := by
  have h1 := Int32.le_toInt x
  have h2 := Int32.toInt_lt x
  constructor <;> omega
theorem lI_in (x : Int64) : inL x.toInt := by
  have h1 := Int64.le_toInt x
  have h2 := Int64.toInt_lt x
  constructor <;> omega
theorem iI_add (a b : Int) : iI a + iI b = iI (a + b) := by unfold iI; rw [Int32.ofInt_add]
theorem iI_sub (a b : Int) : iI a - iI b = iI (a - b) := by unfold iI; rw [Int32.ofInt_sub]
theorem iI_mul (a b : Int) : iI a * iI b = iI (a * b) := by unfold iI; rw [Int32.ofInt_mul]
theorem iI_neg (a : Int) : -iI a = iI (-a) := by unfold iI; rw [Int32.ofInt_neg]
theorem lI_add (a b : Int) : lI a + lI b = lI (a + b) := by unfold lI; rw [Int64.ofInt_add]
theorem lI_sub (a b : Int) : lI a - lI b = lI (a - b) := by unfold lI; rw [Int64.ofInt_sub]
theorem lI_mul (a b : Int) : lI a * lI b = lI (a * b) := by unfold lI; rw [Int64.ofInt_mul]
theorem lI_neg (a : Int) : -lI a = lI (-a) := by unfold lI; rw [Int64.ofInt_neg]
theorem iI_lt {a b : Int} (ha : inI a) (hb : inI b) : iI a < iI b ↔ a < b := by rw [Int32.lt_iff_toInt_lt, iI_t ha, iI_t hb]
theorem iI_le {a b : Int} (ha : inI a) (hb : inI b) : iI a ≤ iI b ↔ a ≤ b := by rw [Int32.le_iff_toInt_le, iI_t ha, iI_t hb]
theorem iI_eq {a b : Int} (ha : inI a) (hb : inI b) : iI a = iI b ↔ a = b := by rw [← Int32.toInt_inj, iI_t ha, iI_t hb]
theorem lI_lt {a b : Int} (ha : inL a) (hb : inL b) : lI a < lI b ↔ a < b := by rw [Int64.lt_iff_toInt_lt, lI_t ha, lI_t hb]
theorem lI_le {a b : Int} (ha : inL a) (hb : inL b) : lI a ≤ lI b ↔ a ≤ b := by rw [Int64.le_iff_toInt_le, lI_t ha, lI_t hb]
theorem lI_eq {a b : Int} (ha : inL a) (hb : inL b) : lI a = lI b ↔ a = b := by rw [← Int64.toInt_inj, lI_t ha, lI_t hb]
theorem lI_0 : lI 0 = 0 := rfl
theorem iI_0 : iI 0 = 0 := rfl
theorem iI_l {a : Int} (h : inI a) : (iI a).toInt64 = lI a := by
  rw [← Int64.toInt_inj, Int32.toInt_toInt64, iI_t h, lI_t (by omega)]
theorem lI_i (a : Int) : (lI a).toInt32 = iI a := by
  unfold lI iI
  rw [← Int32.toInt_inj, Int64.toInt_toInt32, Int64.toInt_ofInt, Int32.toInt_ofInt]
  exact Int.bmod_bmod_of_dvd (by decide)
theorem lI_div {a b : Int} (ha : inL a) (hb : inL b) (h0 : 0 < b) : lI a / lI b = lI (a.tdiv b) := by
  rw [← Int64.toInt_inj, Int64.toInt_div, lI_t ha, lI_t hb]
  have h1 : inL (a.tdiv b) := by
    have h2 := Int.natAbs_tdiv_le_natAbs a b
    rcases Int.le_total 0 a with h | h
    · have h3 := Int.tdiv_nonneg h (show 0 ≤ b by omega)
      omega
    · have h3 := Int.tdiv_nonneg (show 0 ≤ -a by omega) (show 0 ≤ b by omega)
      rw [Int.neg_tdiv] at h3
      omega
  rw [lI_t h1]
  exact Int.bmod_eq_of_le (by simp; omega) (by simp; omega)
theorem lI_rem {a b : Int} (ha : inL a) (hb : inL b) (h0 : 0 < b) : lI a - lI a / lI b * lI b = lI (a.tmod b) := by
  rw [lI_div ha hb h0, lI_mul, lI_sub, Int.tmod_def, Int.mul_comm]
theorem iI_div {a b : Int} (ha : inI a) (hb : inI b) (h0 : 0 < b) : iI a / iI b = iI (a.tdiv b) := by
  rw [← Int32.toInt_inj, Int32.toInt_div, iI_t ha, iI_t hb]
  have h1 : inI (a.tdiv b) := by
    have h2 := Int.natAbs_tdiv_le_natAbs a b
    rcases Int.le_total 0 a with h | h
    · have h3 := Int.tdiv_nonneg h (show 0 ≤ b by omega)
      omega
    · have h3 := Int.tdiv_nonneg (show 0 ≤ -a by omega) (show 0 ≤ b by omega)
      rw [Int.neg_tdiv] at h3
      omega
  rw [iI_t h1]
  exact Int.bmod_eq_of_le (by simp; omega) (by simp; omega)
theorem iI_rem {a b : Int} (ha : inI a) (hb : inI b) (h0 : 0 < b) : iI a - iI a / iI b * iI b = iI (a.tmod b) := by
  rw [iI_div ha hb h0, iI_mul, iI_sub, Int.tmod_def, Int.mul_comm]
theorem iI_ix {i : Int} {n : Nat} (h : 0 ≤ i ∧ i < n) (hn : n < 2147483648) : vp_in (iI i) n ∧ (iI i).toNatClampNeg = i.toNat := by
  have h1 : inI i := by omega
  have h2 := iI_t h1
  refine ⟨vp_in_iff.mpr (by rw [h2]; omega), ?_⟩
  show (iI i).toInt.toNat = i.toNat
  rw [h2]
/-- a row of ints, of longs, in whole numbers; a read-only one -/
def aI (n : Nat) (F : Int → Int) : zE := zI n (fun j => iI (F (j : Int)))
def aL (n : Nat) (F : Int → Int) : zE := zL n (fun j => lI (F (j : Int)))
def aR (n : Nat) (F : Int → Int) : zE := zR n (fun j => iI (F (j : Int)))
def aB (n : Nat) (F : Int → Int) : zE := zRb n (fun j => iI (F (j : Int)))
def uI (F : Int → Int) (i v : Int) : Int → Int := fun j => if j = i then v else F j
theorem uI_s (F : Int → Int) (i v : Int) : uI F i v i = v := by simp [uI]
theorem uI_n (F : Int → Int) {i j : Int} (v : Int) (h : j ≠ i) : uI F i v j = F j := by simp [uI, h]
section ZR
variable {X : zX} {kc ks : Nat} {mem : List zE} {pc n : Nat} {lv : List (Nat × Value)} {st : List Value}
theorem zI_dec {X : zX} (hd : zDec X.M) {k pc len n : Nat} {i : Instr} (h : X.I[k]? = some (pc, i, len, n)) : decode X.M.2.1 pc = .ok (i, len) ∧ pc + len = n := hd (pc, i, len, n) (List.mem_of_getElem? h)
theorem zlv_at {ad : Nat → Nat} {ls : Array Slot} {nL i : Nat} {v : Value} (h : lv_has ls nL (lv.map (zq ad))) (hi : (i, v) ∈ lv) : ls[i]? = some (.val (zv ad v)) := h.2.2 (i, zv ad v) (List.mem_map.mpr ⟨(i, v), hi, rfl⟩)
def zlk : List (Nat × Value) → Nat → Option Value
  | [], _ => none
  | q :: l, i => if q.1 = i then some q.2 else zlk l i
theorem zlk_mem : ∀ {lv : List (Nat × Value)} {i : Nat} {v : Value}, zlk lv i = some v → (i, v) ∈ lv := by
  intro lv
  induction lv with
  | nil => intro i v h; cases h
  | cons q l ih =>
    intro i v h
    unfold zlk at h
    split at h
    · rename_i hq
      cases h
      subst hq
      exact List.mem_cons_self
    · exact List.mem_cons_of_mem _ (ih h)
/-- a store of one slot, of two -/
def zst1 (lv : List (Nat × Value)) (i : Nat) (v : Value) : List (Nat × Value) := (i, v) :: lv.filter (fun q => !(q.1 == i) && !(q.1 + 1 == i && q.2.category == 2))
def zst2 (lv : List (Nat × Value)) (i : Nat) (v : Value) : List (Nat × Value) := (i, v) :: lv.filter (fun q => !(q.1 == i) && (!(q.1 == i + 1) && !(q.1 + 1 == i && q.2.category == 2)))
theorem zst1_map (ad : Nat → Nat) (i : Nat) (v : Value) : (i, zv ad v) :: (lv.map (zq ad)).filter (fun q => !(q.1 == i) && !(q.1 + 1 == i && q.2.category == 2)) = (zst1 lv i v).map (zq ad) := by
  simp only [zst1, List.map_cons, zq, List.filter_map]
  congr 2
  apply List.filter_congr
  intro q _
  simp [zq, zv_cat]
theorem zst2_map (ad : Nat → Nat) (i : Nat) (v : Value) : (i, zv ad v) :: (lv.map (zq ad)).filter (fun q => !(q.1 == i) && (!(q.1 == i + 1) && !(q.1 + 1 == i && q.2.category == 2))) = (zst2 lv i v).map (zq ad) := by
  simp only [zst2, List.map_cons, zq, List.filter_map]
  congr 2
  apply List.filter_congr
  intro q _
  simp [zq, zv_cat]
/-- fewer locals; another name for what lies on top; more room; a weaker end -/
theorem Z_lv {lv' : List (Nat × Value)} (h : ∀ q ∈ lv', q ∈ lv) (kk : Z X kc ks mem pc lv' st) : Z X kc ks mem pc lv st := by
  intro D cI cL ad ad0 n0 A p e s m args below meth c H locs ls hd hB hWd hag hn hA hS hl
  refine kk D cI cL ad ad0 n0 A p e s m args below meth c H locs ls hd hB hWd hag hn hA hS ⟨hl.1, hl.2.1, fun q hq => ?_⟩
  obtain ⟨q0, h1, h2⟩ := List.mem_map.mp hq
  exact hl.2.2 q (List.mem_map.mpr ⟨q0, h q0 h1, h2⟩)
/-- the same locals in another order, or fewer: by their numbers -/
theorem Z_ls {lv' : List (Nat × Value)} (h : lv'.all (fun q => lv.any (fun r => r.1 == q.1)) = true) (h2 : ∀ q ∈ lv', zlk lv q.1 = some q.2) (kk : Z X kc ks mem pc lv' st) : Z X kc ks mem pc lv st :=
  Z_lv (fun q hq => by have := zlk_mem (h2 q hq); exact this) kk
theorem Z_ti {x y : Int32} (h : x = y) (kk : Z X kc ks mem pc lv (.int y :: st)) : Z X kc ks mem pc lv (.int x :: st) := by rw [h]; exact kk
theorem Z_tl {x y : Int64} (h : x = y) (kk : Z X kc ks mem pc lv (.long y :: st)) : Z X kc ks mem pc lv (.long x :: st) := by rw [h]; exact kk
theorem Z_ci {x y : Int} (h : x = y) (kk : Z X kc ks mem pc lv (.int (iI y) :: st)) : Z X kc ks mem pc lv (.int (iI x) :: st) := by rw [h]; exact kk
theorem Z_cl {x y : Int} (h : x = y) (kk : Z X kc ks mem pc lv (.long (lI y) :: st)) : Z X kc ks mem pc lv (.long (lI x) :: st) := by rw [h]; exact kk
theorem Z_mem {mem' : List zE} (h : mem = mem') (kk : Z X kc ks mem' pc lv st) : Z X kc ks mem pc lv st := by rw [h]; exact kk
theorem Z_room {kc' ks' : Nat} (h1 : kc ≤ kc') (h2 : ks ≤ ks') (kk : Z X kc' ks' mem pc lv st) : Z X kc ks mem pc lv st := by
  intro D cI cL ad ad0 n0 A p e s m args below meth c H locs ls hd hB hWd hag hn hA hS hl
  exact W.widen h1 h2 (kk D cI cL ad ad0 n0 A p e s m args below meth c H locs ls hd hB hWd hag hn hA hS hl)

theorem Z_iconst (k : Nat) {c : Int} (h : X.I[k]? = some (pc, .iconst c, 1, n))  (kk : Z X kc ks mem n lv (.int (iI c) :: st)) : Z X kc ks mem pc lv (st) := by
  intro D cI cL ad ad0 n0 A p e s m args below meth c H locs ls hd hB hWd hag hn hA hS hl
  obtain ⟨h1, rfl⟩ := zI_dec hd h
  exact lv_iconst hB.1 hB.2.1 h1 rfl (kk D cI cL ad ad0 n0 A p e s m args below meth c H locs ls hd hB hWd hag hn hA hS hl)

theorem Z_bipush (k : Nat) {c : Int} (h : X.I[k]? = some (pc, .bipush c, 2, n)) (hv : (Int8.ofInt c).toInt32 = iI c) (kk : Z X kc ks mem n lv (.int (iI c) :: st)) : Z X kc ks mem pc lv (st) := by
  intro D cI cL ad ad0 n0 A p e s m args below meth c H locs ls hd hB hWd hag hn hA hS hl
  obtain ⟨h1, rfl⟩ := zI_dec hd h
  exact lv_bipush hB.1 hB.2.1 h1 hv (kk D cI cL ad ad0 n0 A p e s m args below meth c H locs ls hd hB hWd hag hn hA hS hl)

theorem Z_sipush (k : Nat) {c : Int} (h : X.I[k]? = some (pc, .sipush c, 3, n)) (hv : (Int16.ofInt c).toInt32 = iI c) (kk : Z X kc ks mem n lv (.int (iI c) :: st)) : Z X kc ks mem pc lv (st) := by
  intro D cI cL ad ad0 n0 A p e s m args below meth c H locs ls hd hB hWd hag hn hA hS hl
  obtain ⟨h1, rfl⟩ := zI_dec hd h
  exact lv_sipush hB.1 hB.2.1 h1 hv (kk D cI cL ad ad0 n0 A p e s m args below meth c H locs ls hd hB hWd hag hn hA hS hl)

theorem Z_lconst (k : Nat) {c : Fin 2} (h : X.I[k]? = some (pc, .lconst c, 1, n))  (kk : Z X kc ks mem n lv (.long (lI (c : Nat)) :: st)) : Z X kc ks mem pc lv (st) := by
  intro D cI cL ad ad0 n0 A p e s m args below meth c H locs ls hd hB hWd hag hn hA hS hl
  obtain ⟨h1, rfl⟩ := zI_dec hd h
  exact lv_lconst hB.1 hB.2.1 h1 rfl (kk D cI cL ad ad0 n0 A p e s m args below meth c H locs ls hd hB hWd hag hn hA hS hl)

theorem Z_ldc (k : Nat) {idx : Nat} {v : Int32} {c : Int} (h : X.I[k]? = some (pc, .ldc idx, 2, n)) (hw : Cond.constant X.M.1.cls idx v ∈ zTB) (hv : v = iI c) (kk : Z X kc ks mem n lv (.int (iI c) :: st)) : Z X kc ks mem pc lv (st) := by
  intro D cI cL ad ad0 n0 A p e s m args below meth c H locs ls hd hB hWd hag hn hA hS hl
  obtain ⟨h1, rfl⟩ := zI_dec hd h
  subst hv
  exact lv_ldc hB.1 hB.2.1 hB.2.2.2.2.2.1 (hB.2.2.2.2.2.2.2.1 _ hw) h1 (kk D cI cL ad ad0 n0 A p e s m args below meth c H locs ls hd hB hWd hag hn hA hS hl)

theorem Z_ldc2 (k : Nat) {idx : Nat} {v : Int64} {c : Int} (h : X.I[k]? = some (pc, .ldc2_w idx, 3, n)) (hw : Cond.constantLong X.M.1.cls idx v ∈ zTB) (hv : v = lI c) (kk : Z X kc ks mem n lv (.long (lI c) :: st)) : Z X kc ks mem pc lv (st) := by
  intro D cI cL ad ad0 n0 A p e s m args below meth c H locs ls hd hB hWd hag hn hA hS hl
  obtain ⟨h1, rfl⟩ := zI_dec hd h
  subst hv
  exact lv_ldc2 hB.1 hB.2.1 hB.2.2.2.2.2.1 (hB.2.2.2.2.2.2.2.1 _ hw) h1 (kk D cI cL ad ad0 n0 A p e s m args below meth c H locs ls hd hB hWd hag hn hA hS hl)

theorem Z_iload_n (k : Nat) {j : Fin 4} {i : Nat} {x : Int32} (h : X.I[k]? = some (pc, .iload_n j, 1, n)) (hj : (j : Nat) = i) (hx : zlk lv i = some (.int x)) (kk : Z X kc ks mem n lv (.int x :: st)) : Z X kc ks mem pc lv (st) := by
  intro D cI cL ad ad0 n0 A p e s m args below meth c H locs ls hd hB hWd hag hn hA hS hl
  obtain ⟨h1, rfl⟩ := zI_dec hd h
  exact lv_iload_n hB.1 hB.2.1 h1 hj (zlv_at hl (zlk_mem hx)) (kk D cI cL ad ad0 n0 A p e s m args below meth c H locs ls hd hB hWd hag hn hA hS hl)

theorem Z_iload (k : Nat) {i : Nat} {x : Int32} (h : X.I[k]? = some (pc, .iload i, 2, n)) (hx : zlk lv i = some (.int x)) (kk : Z X kc ks mem n lv (.int x :: st)) : Z X kc ks mem pc lv (st) := by
  intro D cI cL ad ad0 n0 A p e s m args below meth c H locs ls hd hB hWd hag hn hA hS hl
  obtain ⟨h1, rfl⟩ := zI_dec hd h
  exact lv_iload hB.1 hB.2.1 h1 (zlv_at hl (zlk_mem hx)) (kk D cI cL ad ad0 n0 A p e s m args below meth c H locs ls hd hB hWd hag hn hA hS hl)

theorem Z_lload_n (k : Nat) {j : Fin 4} {i : Nat} {x : Int64} (h : X.I[k]? = some (pc, .lload_n j, 1, n)) (hj : (j : Nat) = i) (hx : zlk lv i = some (.long x)) (kk : Z X kc ks mem n lv (.long x :: st)) : Z X kc ks mem pc lv (st) := by
  intro D cI cL ad ad0 n0 A p e s m args below meth c H locs ls hd hB hWd hag hn hA hS hl
  obtain ⟨h1, rfl⟩ := zI_dec hd h
  exact lv_lload_n hB.1 hB.2.1 h1 hj (zlv_at hl (zlk_mem hx)) (kk D cI cL ad ad0 n0 A p e s m args below meth c H locs ls hd hB hWd hag hn hA hS hl)

theorem Z_lload (k : Nat) {i : Nat} {x : Int64} (h : X.I[k]? = some (pc, .lload i, 2, n)) (hx : zlk lv i = some (.long x)) (kk : Z X kc ks mem n lv (.long x :: st)) : Z X kc ks mem pc lv (st) := by
  intro D cI cL ad ad0 n0 A p e s m args below meth c H locs ls hd hB hWd hag hn hA hS hl
  obtain ⟨h1, rfl⟩ := zI_dec hd h
  exact lv_lload hB.1 hB.2.1 h1 (zlv_at hl (zlk_mem hx)) (kk D cI cL ad ad0 n0 A p e s m args below meth c H locs ls hd hB hWd hag hn hA hS hl)

theorem Z_aload_n (k : Nat) {j : Fin 4} {i : Nat} {x : Nat} (h : X.I[k]? = some (pc, .aload_n j, 1, n)) (hj : (j : Nat) = i) (hx : zlk lv i = some (.ref x)) (kk : Z X kc ks mem n lv (.ref x :: st)) : Z X kc ks mem pc lv (st) := by
  intro D cI cL ad ad0 n0 A p e s m args below meth c H locs ls hd hB hWd hag hn hA hS hl
  obtain ⟨h1, rfl⟩ := zI_dec hd h
  exact lv_aload_n hB.1 hB.2.1 h1 hj (zlv_at hl (zlk_mem hx)) (kk D cI cL ad ad0 n0 A p e s m args below meth c H locs ls hd hB hWd hag hn hA hS hl)

theorem Z_aload (k : Nat) {i : Nat} {x : Nat} (h : X.I[k]? = some (pc, .aload i, 2, n)) (hx : zlk lv i = some (.ref x)) (kk : Z X kc ks mem n lv (.ref x :: st)) : Z X kc ks mem pc lv (st) := by
  intro D cI cL ad ad0 n0 A p e s m args below meth c H locs ls hd hB hWd hag hn hA hS hl
  obtain ⟨h1, rfl⟩ := zI_dec hd h
  exact lv_aload hB.1 hB.2.1 h1 (zlv_at hl (zlk_mem hx)) (kk D cI cL ad ad0 n0 A p e s m args below meth c H locs ls hd hB hWd hag hn hA hS hl)

theorem Z_istore_n (k : Nat) {j : Fin 4} {i : Nat} {x : Int32} {lv' : List (Nat × Value)} (h : X.I[k]? = some (pc, .istore_n j, 1, n)) (hj : (j : Nat) = i) (hi : i < X.M.2.2.1) (hl' : zst1 lv i (.int x) = lv') (kk : Z X kc ks mem n lv' st) : Z X kc ks mem pc lv (.int x :: st) := by
  intro D cI cL ad ad0 n0 A p e s m args below meth c H locs ls hd hB hWd hag hn hA hS hl
  obtain ⟨h1, rfl⟩ := zI_dec hd h
  subst hl'
  exact lv_istore_n hB.1 hB.2.1 h1 hj hl hi (zst1_map ad i (.int x)) (fun ls' hl2 => kk D cI cL ad ad0 n0 A p e s m args below meth c H locs ls' hd hB hWd hag hn hA hS hl2)

theorem Z_istore (k : Nat)  {i : Nat} {x : Int32} {lv' : List (Nat × Value)} (h : X.I[k]? = some (pc, .istore i, 2, n))  (hi : i < X.M.2.2.1) (hl' : zst1 lv i (.int x) = lv') (kk : Z X kc ks mem n lv' st) : Z X kc ks mem pc lv (.int x :: st) := by
  intro D cI cL ad ad0 n0 A p e s m args below meth c H locs ls hd hB hWd hag hn hA hS hl
  obtain ⟨h1, rfl⟩ := zI_dec hd h
  subst hl'
  exact lv_istore hB.1 hB.2.1 h1  hl hi (zst1_map ad i (.int x)) (fun ls' hl2 => kk D cI cL ad ad0 n0 A p e s m args below meth c H locs ls' hd hB hWd hag hn hA hS hl2)

theorem Z_lstore_n (k : Nat) {j : Fin 4} {i : Nat} {x : Int64} {lv' : List (Nat × Value)} (h : X.I[k]? = some (pc, .lstore_n j, 1, n)) (hj : (j : Nat) = i) (hi : i + 1 < X.M.2.2.1) (hl' : zst2 lv i (.long x) = lv') (kk : Z X kc ks mem n lv' st) : Z X kc ks mem pc lv (.long x :: st) := by
  intro D cI cL ad ad0 n0 A p e s m args below meth c H locs ls hd hB hWd hag hn hA hS hl
  obtain ⟨h1, rfl⟩ := zI_dec hd h
  subst hl'
  exact lv_lstore_n hB.1 hB.2.1 h1 hj hl hi (zst2_map ad i (.long x)) (fun ls' hl2 => kk D cI cL ad ad0 n0 A p e s m args below meth c H locs ls' hd hB hWd hag hn hA hS hl2)

theorem Z_lstore (k : Nat)  {i : Nat} {x : Int64} {lv' : List (Nat × Value)} (h : X.I[k]? = some (pc, .lstore i, 2, n))  (hi : i + 1 < X.M.2.2.1) (hl' : zst2 lv i (.long x) = lv') (kk : Z X kc ks mem n lv' st) : Z X kc ks mem pc lv (.long x :: st) := by
  intro D cI cL ad ad0 n0 A p e s m args below meth c H locs ls hd hB hWd hag hn hA hS hl
  obtain ⟨h1, rfl⟩ := zI_dec hd h
  subst hl'
  exact lv_lstore hB.1 hB.2.1 h1  hl hi (zst2_map ad i (.long x)) (fun ls' hl2 => kk D cI cL ad ad0 n0 A p e s m args below meth c H locs ls' hd hB hWd hag hn hA hS hl2)

theorem Z_astore_n (k : Nat) {j : Fin 4} {i : Nat} {x : Nat} {lv' : List (Nat × Value)} (h : X.I[k]? = some (pc, .astore_n j, 1, n)) (hj : (j : Nat) = i) (hi : i < X.M.2.2.1) (hl' : zst1 lv i (.ref x) = lv') (kk : Z X kc ks mem n lv' st) : Z X kc ks mem pc lv (.ref x :: st) := by
  intro D cI cL ad ad0 n0 A p e s m args below meth c H locs ls hd hB hWd hag hn hA hS hl
  obtain ⟨h1, rfl⟩ := zI_dec hd h
  subst hl'
  exact lv_astore_n hB.1 hB.2.1 h1 hj hl hi (zst1_map ad i (.ref x)) (fun ls' hl2 => kk D cI cL ad ad0 n0 A p e s m args below meth c H locs ls' hd hB hWd hag hn hA hS hl2)

theorem Z_astore (k : Nat)  {i : Nat} {x : Nat} {lv' : List (Nat × Value)} (h : X.I[k]? = some (pc, .astore i, 2, n))  (hi : i < X.M.2.2.1) (hl' : zst1 lv i (.ref x) = lv') (kk : Z X kc ks mem n lv' st) : Z X kc ks mem pc lv (.ref x :: st) := by
  intro D cI cL ad ad0 n0 A p e s m args below meth c H locs ls hd hB hWd hag hn hA hS hl
  obtain ⟨h1, rfl⟩ := zI_dec hd h
  subst hl'
  exact lv_astore hB.1 hB.2.1 h1  hl hi (zst1_map ad i (.ref x)) (fun ls' hl2 => kk D cI cL ad ad0 n0 A p e s m args below meth c H locs ls' hd hB hWd hag hn hA hS hl2)

theorem Z_iinc (k : Nat) {i : Nat} {d : Int} {x : Int} {lv' : List (Nat × Value)} (h : X.I[k]? = some (pc, .iinc i d, 3, n)) (hx : zlk lv i = some (.int (iI x))) (hi : i < X.M.2.2.1) (hl' : zst1 lv i (.int (iI (x + d))) = lv') (kk : Z X kc ks mem n lv' st) : Z X kc ks mem pc lv st := by
  intro D cI cL ad ad0 n0 A p e s m args below meth c H locs ls hd hB hWd hag hn hA hS hl
  obtain ⟨h1, rfl⟩ := zI_dec hd h
  subst hl'
  obtain ⟨k', hk'⟩ := List.getElem?_of_mem (List.mem_map.mpr ⟨(i, Value.int (iI x)), zlk_mem hx, rfl⟩ : zq ad (i, Value.int (iI x)) ∈ lv.map (zq ad))
  exact lv_iinc hB.1 hB.2.1 h1 hl hk' (iI_add x d) hi (zst1_map ad i (.int (iI (x + d)))) (fun ls' hl2 => kk D cI cL ad ad0 n0 A p e s m args below meth c H locs ls' hd hB hWd hag hn hA hS hl2)

theorem Z_iadd (k : Nat) {x y : Int} (h : X.I[k]? = some (pc, .iadd, 1, n))  (kk : Z X kc ks mem n lv (.int (iI (x + y)) :: st)) : Z X kc ks mem pc lv (.int (iI y) :: .int (iI x) :: st) := by
  intro D cI cL ad ad0 n0 A p e s m args below meth c H locs ls hd hB hWd hag hn hA hS hl
  obtain ⟨h1, rfl⟩ := zI_dec hd h
  rw [← iI_add] at kk
  exact lv_iadd hB.1 hB.2.1 h1 (kk D cI cL ad ad0 n0 A p e s m args below meth c H locs ls hd hB hWd hag hn hA hS hl)

theorem Z_isub (k : Nat) {x y : Int} (h : X.I[k]? = some (pc, .isub, 1, n))  (kk : Z X kc ks mem n lv (.int (iI (x - y)) :: st)) : Z X kc ks mem pc lv (.int (iI y) :: .int (iI x) :: st) := by
  intro D cI cL ad ad0 n0 A p e s m args below meth c H locs ls hd hB hWd hag hn hA hS hl
  obtain ⟨h1, rfl⟩ := zI_dec hd h
  rw [← iI_sub] at kk
  exact lv_isub hB.1 hB.2.1 h1 (kk D cI cL ad ad0 n0 A p e s m args below meth c H locs ls hd hB hWd hag hn hA hS hl)

theorem Z_imul (k : Nat) {x y : Int} (h : X.I[k]? = some (pc, .imul, 1, n))  (kk : Z X kc ks mem n lv (.int (iI (x * y)) :: st)) : Z X kc ks mem pc lv (.int (iI y) :: .int (iI x) :: st) := by
  intro D cI cL ad ad0 n0 A p e s m args below meth c H locs ls hd hB hWd hag hn hA hS hl
  obtain ⟨h1, rfl⟩ := zI_dec hd h
  rw [← iI_mul] at kk
  exact lv_imul hB.1 hB.2.1 h1 (kk D cI cL ad ad0 n0 A p e s m args below meth c H locs ls hd hB hWd hag hn hA hS hl)

theorem Z_iand (k : Nat) {x y : Int32} (h : X.I[k]? = some (pc, .iand, 1, n))  (kk : Z X kc ks mem n lv (.int (x &&& y) :: st)) : Z X kc ks mem pc lv (.int y :: .int x :: st) := by
  intro D cI cL ad ad0 n0 A p e s m args below meth c H locs ls hd hB hWd hag hn hA hS hl
  obtain ⟨h1, rfl⟩ := zI_dec hd h
  exact lv_iand hB.1 hB.2.1 h1 (kk D cI cL ad ad0 n0 A p e s m args below meth c H locs ls hd hB hWd hag hn hA hS hl)

theorem Z_ior (k : Nat) {x y : Int32} (h : X.I[k]? = some (pc, .ior, 1, n))  (kk : Z X kc ks mem n lv (.int (x ||| y) :: st)) : Z X kc ks mem pc lv (.int y :: .int x :: st) := by
  intro D cI cL ad ad0 n0 A p e s m args below meth c H locs ls hd hB hWd hag hn hA hS hl
  obtain ⟨h1, rfl⟩ := zI_dec hd h
  exact lv_ior hB.1 hB.2.1 h1 (kk D cI cL ad ad0 n0 A p e s m args below meth c H locs ls hd hB hWd hag hn hA hS hl)

theorem Z_ixor (k : Nat) {x y : Int32} (h : X.I[k]? = some (pc, .ixor, 1, n))  (kk : Z X kc ks mem n lv (.int (x ^^^ y) :: st)) : Z X kc ks mem pc lv (.int y :: .int x :: st) := by
  intro D cI cL ad ad0 n0 A p e s m args below meth c H locs ls hd hB hWd hag hn hA hS hl
  obtain ⟨h1, rfl⟩ := zI_dec hd h
  exact lv_ixor hB.1 hB.2.1 h1 (kk D cI cL ad ad0 n0 A p e s m args below meth c H locs ls hd hB hWd hag hn hA hS hl)

theorem Z_ishl (k : Nat) {x y : Int32} (h : X.I[k]? = some (pc, .ishl, 1, n))  (kk : Z X kc ks mem n lv (.int (x <<< (y &&& 31)) :: st)) : Z X kc ks mem pc lv (.int y :: .int x :: st) := by
  intro D cI cL ad ad0 n0 A p e s m args below meth c H locs ls hd hB hWd hag hn hA hS hl
  obtain ⟨h1, rfl⟩ := zI_dec hd h
  exact lv_ishl hB.1 hB.2.1 h1 (kk D cI cL ad ad0 n0 A p e s m args below meth c H locs ls hd hB hWd hag hn hA hS hl)

theorem Z_ishr (k : Nat) {x y : Int32} (h : X.I[k]? = some (pc, .ishr, 1, n))  (kk : Z X kc ks mem n lv (.int (x >>> (y &&& 31)) :: st)) : Z X kc ks mem pc lv (.int y :: .int x :: st) := by
  intro D cI cL ad ad0 n0 A p e s m args below meth c H locs ls hd hB hWd hag hn hA hS hl
  obtain ⟨h1, rfl⟩ := zI_dec hd h
  exact lv_ishr hB.1 hB.2.1 h1 (kk D cI cL ad ad0 n0 A p e s m args below meth c H locs ls hd hB hWd hag hn hA hS hl)

theorem Z_iushr (k : Nat) {x y : Int32} (h : X.I[k]? = some (pc, .iushr, 1, n))  (kk : Z X kc ks mem n lv (.int ((x.toUInt32 >>> (y.toUInt32 &&& Int32.toUInt32 31)).toInt32) :: st)) : Z X kc ks mem pc lv (.int y :: .int x :: st) := by
  intro D cI cL ad ad0 n0 A p e s m args below meth c H locs ls hd hB hWd hag hn hA hS hl
  obtain ⟨h1, rfl⟩ := zI_dec hd h
  exact lv_iushr hB.1 hB.2.1 h1 rfl (kk D cI cL ad ad0 n0 A p e s m args below meth c H locs ls hd hB hWd hag hn hA hS hl)

theorem Z_lshl (k : Nat) {x : Int64} {y : Int32} (h : X.I[k]? = some (pc, .lshl, 1, n))  (kk : Z X kc ks mem n lv (.long (x <<< (y.toInt64 &&& 63)) :: st)) : Z X kc ks mem pc lv (.int y :: .long x :: st) := by
  intro D cI cL ad ad0 n0 A p e s m args below meth c H locs ls hd hB hWd hag hn hA hS hl
  obtain ⟨h1, rfl⟩ := zI_dec hd h
  exact lv_lshl hB.1 hB.2.1 h1 rfl (kk D cI cL ad ad0 n0 A p e s m args below meth c H locs ls hd hB hWd hag hn hA hS hl)

theorem Z_ladd (k : Nat) {x y : Int} (h : X.I[k]? = some (pc, .ladd, 1, n))  (kk : Z X kc ks mem n lv (.long (lI (x + y)) :: st)) : Z X kc ks mem pc lv (.long (lI y) :: .long (lI x) :: st) := by
  intro D cI cL ad ad0 n0 A p e s m args below meth c H locs ls hd hB hWd hag hn hA hS hl
  obtain ⟨h1, rfl⟩ := zI_dec hd h
  rw [← lI_add] at kk
  exact lv_ladd hB.1 hB.2.1 h1 (kk D cI cL ad ad0 n0 A p e s m args below meth c H locs ls hd hB hWd hag hn hA hS hl)

theorem Z_lsub (k : Nat) {x y : Int} (h : X.I[k]? = some (pc, .lsub, 1, n))  (kk : Z X kc ks mem n lv (.long (lI (x - y)) :: st)) : Z X kc ks mem pc lv (.long (lI y) :: .long (lI x) :: st) := by
  intro D cI cL ad ad0 n0 A p e s m args below meth c H locs ls hd hB hWd hag hn hA hS hl
  obtain ⟨h1, rfl⟩ := zI_dec hd h
  rw [← lI_sub] at kk
  exact lv_lsub hB.1 hB.2.1 h1 (kk D cI cL ad ad0 n0 A p e s m args below meth c H locs ls hd hB hWd hag hn hA hS hl)

theorem Z_lmul (k : Nat) {x y : Int} (h : X.I[k]? = some (pc, .lmul, 1, n))  (kk : Z X kc ks mem n lv (.long (lI (x * y)) :: st)) : Z X kc ks mem pc lv (.long (lI y) :: .long (lI x) :: st) := by
  intro D cI cL ad ad0 n0 A p e s m args below meth c H locs ls hd hB hWd hag hn hA hS hl
  obtain ⟨h1, rfl⟩ := zI_dec hd h
  rw [← lI_mul] at kk
  exact lv_lmul hB.1 hB.2.1 h1 (kk D cI cL ad ad0 n0 A p e s m args below meth c H locs ls hd hB hWd hag hn hA hS hl)

theorem Z_land (k : Nat) {x y : Int64} (h : X.I[k]? = some (pc, .land, 1, n))  (kk : Z X kc ks mem n lv (.long (x &&& y) :: st)) : Z X kc ks mem pc lv (.long y :: .long x :: st) := by
  intro D cI cL ad ad0 n0 A p e s m args below meth c H locs ls hd hB hWd hag hn hA hS hl
  obtain ⟨h1, rfl⟩ := zI_dec hd h
  exact lv_land hB.1 hB.2.1 h1 (kk D cI cL ad ad0 n0 A p e s m args below meth c H locs ls hd hB hWd hag hn hA hS hl)

theorem Z_lor (k : Nat) {x y : Int64} (h : X.I[k]? = some (pc, .lor, 1, n))  (kk : Z X kc ks mem n lv (.long (x ||| y) :: st)) : Z X kc ks mem pc lv (.long y :: .long x :: st) := by
  intro D cI cL ad ad0 n0 A p e s m args below meth c H locs ls hd hB hWd hag hn hA hS hl
  obtain ⟨h1, rfl⟩ := zI_dec hd h
  exact lv_lor hB.1 hB.2.1 h1 (kk D cI cL ad ad0 n0 A p e s m args below meth c H locs ls hd hB hWd hag hn hA hS hl)

theorem Z_lxor (k : Nat) {x y : Int64} (h : X.I[k]? = some (pc, .lxor, 1, n))  (kk : Z X kc ks mem n lv (.long (x ^^^ y) :: st)) : Z X kc ks mem pc lv (.long y :: .long x :: st) := by
  intro D cI cL ad ad0 n0 A p e s m args below meth c H locs ls hd hB hWd hag hn hA hS hl
  obtain ⟨h1, rfl⟩ := zI_dec hd h
  exact lv_lxor hB.1 hB.2.1 h1 (kk D cI cL ad ad0 n0 A p e s m args below meth c H locs ls hd hB hWd hag hn hA hS hl)

theorem Z_ineg (k : Nat) {x : Int} (h : X.I[k]? = some (pc, .ineg, 1, n))  (kk : Z X kc ks mem n lv (.int (iI (-x)) :: st)) : Z X kc ks mem pc lv (.int (iI x) :: st) := by
  intro D cI cL ad ad0 n0 A p e s m args below meth c H locs ls hd hB hWd hag hn hA hS hl
  obtain ⟨h1, rfl⟩ := zI_dec hd h
  rw [← iI_neg] at kk
  exact lv_ineg hB.1 hB.2.1 h1 (kk D cI cL ad ad0 n0 A p e s m args below meth c H locs ls hd hB hWd hag hn hA hS hl)

theorem Z_lneg (k : Nat) {x : Int} (h : X.I[k]? = some (pc, .lneg, 1, n))  (kk : Z X kc ks mem n lv (.long (lI (-x)) :: st)) : Z X kc ks mem pc lv (.long (lI x) :: st) := by
  intro D cI cL ad ad0 n0 A p e s m args below meth c H locs ls hd hB hWd hag hn hA hS hl
  obtain ⟨h1, rfl⟩ := zI_dec hd h
  rw [← lI_neg] at kk
  exact lv_lneg hB.1 hB.2.1 h1 (kk D cI cL ad ad0 n0 A p e s m args below meth c H locs ls hd hB hWd hag hn hA hS hl)

theorem Z_i2l (k : Nat) {x : Int} (h : X.I[k]? = some (pc, .i2l, 1, n)) (hx : inI x) (kk : Z X kc ks mem n lv (.long (lI x) :: st)) : Z X kc ks mem pc lv (.int (iI x) :: st) := by
  intro D cI cL ad ad0 n0 A p e s m args below meth c H locs ls hd hB hWd hag hn hA hS hl
  obtain ⟨h1, rfl⟩ := zI_dec hd h
  exact lv_i2l hB.1 hB.2.1 h1 (iI_l hx) (kk D cI cL ad ad0 n0 A p e s m args below meth c H locs ls hd hB hWd hag hn hA hS hl)

theorem Z_l2i (k : Nat) {x : Int} (h : X.I[k]? = some (pc, .l2i, 1, n))  (kk : Z X kc ks mem n lv (.int (iI x) :: st)) : Z X kc ks mem pc lv (.long (lI x) :: st) := by
  intro D cI cL ad ad0 n0 A p e s m args below meth c H locs ls hd hB hWd hag hn hA hS hl
  obtain ⟨h1, rfl⟩ := zI_dec hd h
  exact lv_l2i hB.1 hB.2.1 h1 (lI_i x) (kk D cI cL ad ad0 n0 A p e s m args below meth c H locs ls hd hB hWd hag hn hA hS hl)

theorem Z_ldiv (k : Nat) {x y : Int} (h : X.I[k]? = some (pc, .ldiv, 1, n)) (hx : inL x) (hy : inL y) (h0 : 0 < y) (kk : Z X kc ks mem n lv (.long (lI (x.tdiv y)) :: st)) : Z X kc ks mem pc lv (.long (lI y) :: .long (lI x) :: st) := by
  intro D cI cL ad ad0 n0 A p e s m args below meth c H locs ls hd hB hWd hag hn hA hS hl
  obtain ⟨h1, rfl⟩ := zI_dec hd h
  rw [← lI_div hx hy h0] at kk
  exact lv_ldiv hB.1 hB.2.1 h1 (fun z => by have := (lI_eq hy (by omega)).mp (z.trans lI_0.symm); omega) (kk D cI cL ad ad0 n0 A p e s m args below meth c H locs ls hd hB hWd hag hn hA hS hl)

theorem Z_lrem (k : Nat) {x y : Int} (h : X.I[k]? = some (pc, .lrem, 1, n)) (hx : inL x) (hy : inL y) (h0 : 0 < y) (kk : Z X kc ks mem n lv (.long (lI (x.tmod y)) :: st)) : Z X kc ks mem pc lv (.long (lI y) :: .long (lI x) :: st) := by
  intro D cI cL ad ad0 n0 A p e s m args below meth c H locs ls hd hB hWd hag hn hA hS hl
  obtain ⟨h1, rfl⟩ := zI_dec hd h
  rw [← lI_rem hx hy h0] at kk
  exact lv_lrem hB.1 hB.2.1 h1 (fun z => by have := (lI_eq hy (by omega)).mp (z.trans lI_0.symm); omega) (kk D cI cL ad ad0 n0 A p e s m args below meth c H locs ls hd hB hWd hag hn hA hS hl)

theorem Z_irem (k : Nat) {x y : Int} (h : X.I[k]? = some (pc, .irem, 1, n)) (hx : inI x) (hy : inI y) (h0 : 0 < y) (kk : Z X kc ks mem n lv (.int (iI (x.tmod y)) :: st)) : Z X kc ks mem pc lv (.int (iI y) :: .int (iI x) :: st) := by
  intro D cI cL ad ad0 n0 A p e s m args below meth c H locs ls hd hB hWd hag hn hA hS hl
  obtain ⟨h1, rfl⟩ := zI_dec hd h
  rw [← iI_rem hx hy h0] at kk
  exact lv_irem hB.1 hB.2.1 h1 (fun z => by have := (iI_eq hy (by omega)).mp (z.trans iI_0.symm); omega) (kk D cI cL ad ad0 n0 A p e s m args below meth c H locs ls hd hB hWd hag hn hA hS hl)

theorem Z_dup (k : Nat) {v : Value} (h : X.I[k]? = some (pc, .dup, 1, n)) (hc : v.category = 1) (kk : Z X kc ks mem n lv (v :: v :: st)) : Z X kc ks mem pc lv (v :: st) := by
  intro D cI cL ad ad0 n0 A p e s m args below meth c H locs ls hd hB hWd hag hn hA hS hl
  obtain ⟨h1, rfl⟩ := zI_dec hd h
  exact lv_dup hB.1 hB.2.1 h1 ((zv_cat ad v).trans hc) (kk D cI cL ad ad0 n0 A p e s m args below meth c H locs ls hd hB hWd hag hn hA hS hl)

theorem Z_pop (k : Nat) {v : Value} (h : X.I[k]? = some (pc, .pop, 1, n)) (hc : v.category = 1) (kk : Z X kc ks mem n lv (st)) : Z X kc ks mem pc lv (v :: st) := by
  intro D cI cL ad ad0 n0 A p e s m args below meth c H locs ls hd hB hWd hag hn hA hS hl
  obtain ⟨h1, rfl⟩ := zI_dec hd h
  exact lv_pop hB.1 hB.2.1 h1 ((zv_cat ad v).trans hc) (kk D cI cL ad ad0 n0 A p e s m args below meth c H locs ls hd hB hWd hag hn hA hS hl)

theorem Z_dup_x1 (k : Nat) {v w : Value} (h : X.I[k]? = some (pc, .dup_x1, 1, n)) (hc : v.category = 1) (hc2 : w.category = 1) (kk : Z X kc ks mem n lv (v :: w :: v :: st)) : Z X kc ks mem pc lv (v :: w :: st) := by
  intro D cI cL ad ad0 n0 A p e s m args below meth c H locs ls hd hB hWd hag hn hA hS hl
  obtain ⟨h1, rfl⟩ := zI_dec hd h
  exact lv_dup_x1 hB.1 hB.2.1 h1 ((zv_cat ad v).trans hc) ((zv_cat ad w).trans hc2) (kk D cI cL ad ad0 n0 A p e s m args below meth c H locs ls hd hB hWd hag hn hA hS hl)

theorem Z_dup2_2 (k : Nat) {v : Value} (h : X.I[k]? = some (pc, .dup2, 1, n)) (hc : v.category = 2) (kk : Z X kc ks mem n lv (v :: v :: st)) : Z X kc ks mem pc lv (v :: st) := by
  intro D cI cL ad ad0 n0 A p e s m args below meth c H locs ls hd hB hWd hag hn hA hS hl
  obtain ⟨h1, rfl⟩ := zI_dec hd h
  exact lv_dup2_2 hB.1 hB.2.1 h1 ((zv_cat ad v).trans hc) (kk D cI cL ad ad0 n0 A p e s m args below meth c H locs ls hd hB hWd hag hn hA hS hl)

theorem Z_dup2_11 (k : Nat) {v w : Value} (h : X.I[k]? = some (pc, .dup2, 1, n)) (hc : v.category = 1) (hc2 : w.category = 1) (kk : Z X kc ks mem n lv (v :: w :: v :: w :: st)) : Z X kc ks mem pc lv (v :: w :: st) := by
  intro D cI cL ad ad0 n0 A p e s m args below meth c H locs ls hd hB hWd hag hn hA hS hl
  obtain ⟨h1, rfl⟩ := zI_dec hd h
  exact lv_dup2_11 hB.1 hB.2.1 h1 ((zv_cat ad v).trans hc) ((zv_cat ad w).trans hc2) (kk D cI cL ad ad0 n0 A p e s m args below meth c H locs ls hd hB hWd hag hn hA hS hl)

theorem Z_goto (k : Nat) {off : Int} {tgt : Nat} (h : X.I[k]? = some (pc, .goto off, 3, n)) (ht : (pc : Int) + off = (tgt : Int)) (kk : Z X kc ks mem tgt lv st) : Z X kc ks mem pc lv st := by
  intro D cI cL ad ad0 n0 A p e s m args below meth c H locs ls hd hB hWd hag hn hA hS hl
  obtain ⟨h1, rfl⟩ := zI_dec hd h
  exact lv_goto hB.1 hB.2.1 h1 ht (kk D cI cL ad ad0 n0 A p e s m args below meth c H locs ls hd hB hWd hag hn hA hS hl)

theorem Z_icmp_eq (k : Nat) {x y off : Int} {tgt : Nat} (h : X.I[k]? = some (pc, .if_icmp .eq off, 3, n)) (ht : (pc : Int) + off = (tgt : Int)) (hx : inI x) (hy : inI y) (kt : x = y → Z X kc ks mem tgt lv st) (kf : x ≠ y → Z X kc ks mem n lv st) : Z X kc ks mem pc lv (.int (iI y) :: .int (iI x) :: st) := by
  intro D cI cL ad ad0 n0 A p e s m args below meth c H locs ls hd hB hWd hag hn hA hS hl
  obtain ⟨h1, rfl⟩ := zI_dec hd h
  exact lv_icmp_eq hB.1 hB.2.1 h1 ht (fun z => (kt ((iI_eq hx hy).mp z)) D cI cL ad ad0 n0 A p e s m args below meth c H locs ls hd hB hWd hag hn hA hS hl) (fun z => (kf (fun e0 => z ((iI_eq hx hy).mpr e0))) D cI cL ad ad0 n0 A p e s m args below meth c H locs ls hd hB hWd hag hn hA hS hl)

theorem Z_icmp_ne (k : Nat) {x y off : Int} {tgt : Nat} (h : X.I[k]? = some (pc, .if_icmp .ne off, 3, n)) (ht : (pc : Int) + off = (tgt : Int)) (hx : inI x) (hy : inI y) (kt : x ≠ y → Z X kc ks mem tgt lv st) (kf : x = y → Z X kc ks mem n lv st) : Z X kc ks mem pc lv (.int (iI y) :: .int (iI x) :: st) := by
  intro D cI cL ad ad0 n0 A p e s m args below meth c H locs ls hd hB hWd hag hn hA hS hl
  obtain ⟨h1, rfl⟩ := zI_dec hd h
  exact lv_icmp_ne hB.1 hB.2.1 h1 ht (fun z => (kt (fun e0 => z ((iI_eq hx hy).mpr e0))) D cI cL ad ad0 n0 A p e s m args below meth c H locs ls hd hB hWd hag hn hA hS hl) (fun z => (kf ((iI_eq hx hy).mp z)) D cI cL ad ad0 n0 A p e s m args below meth c H locs ls hd hB hWd hag hn hA hS hl)

theorem Z_icmp_lt (k : Nat) {x y off : Int} {tgt : Nat} (h : X.I[k]? = some (pc, .if_icmp .lt off, 3, n)) (ht : (pc : Int) + off = (tgt : Int)) (hx : inI x) (hy : inI y) (kt : x < y → Z X kc ks mem tgt lv st) (kf : ¬ x < y → Z X kc ks mem n lv st) : Z X kc ks mem pc lv (.int (iI y) :: .int (iI x) :: st) := by
  intro D cI cL ad ad0 n0 A p e s m args below meth c H locs ls hd hB hWd hag hn hA hS hl
  obtain ⟨h1, rfl⟩ := zI_dec hd h
  exact lv_icmp_lt hB.1 hB.2.1 h1 ht (fun z => (kt ((iI_lt hx hy).mp z)) D cI cL ad ad0 n0 A p e s m args below meth c H locs ls hd hB hWd hag hn hA hS hl) (fun z => (kf (fun e0 => z ((iI_lt hx hy).mpr e0))) D cI cL ad ad0 n0 A p e s m args below meth c H locs ls hd hB hWd hag hn hA hS hl)

theorem Z_icmp_ge (k : Nat) {x y off : Int} {tgt : Nat} (h : X.I[k]? = some (pc, .if_icmp .ge off, 3, n)) (ht : (pc : Int) + off = (tgt : Int)) (hx : inI x) (hy : inI y) (kt : y ≤ x → Z X kc ks mem tgt lv st) (kf : ¬ y ≤ x → Z X kc ks mem n lv st) : Z X kc ks mem pc lv (.int (iI y) :: .int (iI x) :: st) := by
  intro D cI cL ad ad0 n0 A p e s m args below meth c H locs ls hd hB hWd hag hn hA hS hl
  obtain ⟨h1, rfl⟩ := zI_dec hd h
  exact lv_icmp_ge hB.1 hB.2.1 h1 ht (fun z => (kt ((iI_le hy hx).mp z)) D cI cL ad ad0 n0 A p e s m args below meth c H locs ls hd hB hWd hag hn hA hS hl) (fun z => (kf (fun e0 => z ((iI_le hy hx).mpr e0))) D cI cL ad ad0 n0 A p e s m args below meth c H locs ls hd hB hWd hag hn hA hS hl)

theorem Z_icmp_gt (k : Nat) {x y off : Int} {tgt : Nat} (h : X.I[k]? = some (pc, .if_icmp .gt off, 3, n)) (ht : (pc : Int) + off = (tgt : Int)) (hx : inI x) (hy : inI y) (kt : y < x → Z X kc ks mem tgt lv st) (kf : ¬ y < x → Z X kc ks mem n lv st) : Z X kc ks mem pc lv (.int (iI y) :: .int (iI x) :: st) := by
  intro D cI cL ad ad0 n0 A p e s m args below meth c H locs ls hd hB hWd hag hn hA hS hl
  obtain ⟨h1, rfl⟩ := zI_dec hd h
  exact lv_icmp_gt hB.1 hB.2.1 h1 ht (fun z => (kt ((iI_lt hy hx).mp z)) D cI cL ad ad0 n0 A p e s m args below meth c H locs ls hd hB hWd hag hn hA hS hl) (fun z => (kf (fun e0 => z ((iI_lt hy hx).mpr e0))) D cI cL ad ad0 n0 A p e s m args below meth c H locs ls hd hB hWd hag hn hA hS hl)

theorem Z_icmp_le (k : Nat) {x y off : Int} {tgt : Nat} (h : X.I[k]? = some (pc, .if_icmp .le off, 3, n)) (ht : (pc : Int) + off = (tgt : Int)) (hx : inI x) (hy : inI y) (kt : x ≤ y → Z X kc ks mem tgt lv st) (kf : ¬ x ≤ y → Z X kc ks mem n lv st) : Z X kc ks mem pc lv (.int (iI y) :: .int (iI x) :: st) := by
  intro D cI cL ad ad0 n0 A p e s m args below meth c H locs ls hd hB hWd hag hn hA hS hl
  obtain ⟨h1, rfl⟩ := zI_dec hd h
  exact lv_icmp_le hB.1 hB.2.1 h1 ht (fun z => (kt ((iI_le hx hy).mp z)) D cI cL ad ad0 n0 A p e s m args below meth c H locs ls hd hB hWd hag hn hA hS hl) (fun z => (kf (fun e0 => z ((iI_le hx hy).mpr e0))) D cI cL ad ad0 n0 A p e s m args below meth c H locs ls hd hB hWd hag hn hA hS hl)

theorem Z_if_eq (k : Nat) {x off : Int} {tgt : Nat} (h : X.I[k]? = some (pc, .ifCond .eq off, 3, n)) (ht : (pc : Int) + off = (tgt : Int)) (hx : inI x) (kt : x = 0 → Z X kc ks mem tgt lv st) (kf : x ≠ 0 → Z X kc ks mem n lv st) : Z X kc ks mem pc lv (.int (iI x) :: st) := by
  intro D cI cL ad ad0 n0 A p e s m args below meth c H locs ls hd hB hWd hag hn hA hS hl
  obtain ⟨h1, rfl⟩ := zI_dec hd h
  exact lv_if_eq hB.1 hB.2.1 h1 ht (fun z => (kt ((iI_eq hx (show inI 0 by omega)).mp z)) D cI cL ad ad0 n0 A p e s m args below meth c H locs ls hd hB hWd hag hn hA hS hl) (fun z => (kf (fun e0 => z ((iI_eq hx (show inI 0 by omega)).mpr e0))) D cI cL ad ad0 n0 A p e s m args below meth c H locs ls hd hB hWd hag hn hA hS hl)

theorem Z_if_ne (k : Nat) {x off : Int} {tgt : Nat} (h : X.I[k]? = some (pc, .ifCond .ne off, 3, n)) (ht : (pc : Int) + off = (tgt : Int)) (hx : inI x) (kt : x ≠ 0 → Z X kc ks mem tgt lv st) (kf : x = 0 → Z X kc ks mem n lv st) : Z X kc ks mem pc lv (.int (iI x) :: st) := by
  intro D cI cL ad ad0 n0 A p e s m args below meth c H locs ls hd hB hWd hag hn hA hS hl
  obtain ⟨h1, rfl⟩ := zI_dec hd h
  exact lv_if_ne hB.1 hB.2.1 h1 ht (fun z => (kt (fun e0 => z ((iI_eq hx (show inI 0 by omega)).mpr e0))) D cI cL ad ad0 n0 A p e s m args below meth c H locs ls hd hB hWd hag hn hA hS hl) (fun z => (kf ((iI_eq hx (show inI 0 by omega)).mp z)) D cI cL ad ad0 n0 A p e s m args below meth c H locs ls hd hB hWd hag hn hA hS hl)

theorem Z_if_lt (k : Nat) {x off : Int} {tgt : Nat} (h : X.I[k]? = some (pc, .ifCond .lt off, 3, n)) (ht : (pc : Int) + off = (tgt : Int)) (hx : inI x) (kt : x < 0 → Z X kc ks mem tgt lv st) (kf : ¬ x < 0 → Z X kc ks mem n lv st) : Z X kc ks mem pc lv (.int (iI x) :: st) := by
  intro D cI cL ad ad0 n0 A p e s m args below meth c H locs ls hd hB hWd hag hn hA hS hl
  obtain ⟨h1, rfl⟩ := zI_dec hd h
  exact lv_if_lt hB.1 hB.2.1 h1 ht (fun z => (kt ((iI_lt hx (show inI 0 by omega)).mp z)) D cI cL ad ad0 n0 A p e s m args below meth c H locs ls hd hB hWd hag hn hA hS hl) (fun z => (kf (fun e0 => z ((iI_lt hx (show inI 0 by omega)).mpr e0))) D cI cL ad ad0 n0 A p e s m args below meth c H locs ls hd hB hWd hag hn hA hS hl)

theorem Z_if_ge (k : Nat) {x off : Int} {tgt : Nat} (h : X.I[k]? = some (pc, .ifCond .ge off, 3, n)) (ht : (pc : Int) + off = (tgt : Int)) (hx : inI x) (kt : 0 ≤ x → Z X kc ks mem tgt lv st) (kf : ¬ 0 ≤ x → Z X kc ks mem n lv st) : Z X kc ks mem pc lv (.int (iI x) :: st) := by
  intro D cI cL ad ad0 n0 A p e s m args below meth c H locs ls hd hB hWd hag hn hA hS hl
  obtain ⟨h1, rfl⟩ := zI_dec hd h
  exact lv_if_ge hB.1 hB.2.1 h1 ht (fun z => (kt ((iI_le (show inI 0 by omega) hx).mp z)) D cI cL ad ad0 n0 A p e s m args below meth c H locs ls hd hB hWd hag hn hA hS hl) (fun z => (kf (fun e0 => z ((iI_le (show inI 0 by omega) hx).mpr e0))) D cI cL ad ad0 n0 A p e s m args below meth c H locs ls hd hB hWd hag hn hA hS hl)

theorem Z_if_gt (k : Nat) {x off : Int} {tgt : Nat} (h : X.I[k]? = some (pc, .ifCond .gt off, 3, n)) (ht : (pc : Int) + off = (tgt : Int)) (hx : inI x) (kt : 0 < x → Z X kc ks mem tgt lv st) (kf : ¬ 0 < x → Z X kc ks mem n lv st) : Z X kc ks mem pc lv (.int (iI x) :: st) := by
  intro D cI cL ad ad0 n0 A p e s m args below meth c H locs ls hd hB hWd hag hn hA hS hl
  obtain ⟨h1, rfl⟩ := zI_dec hd h
  exact lv_if_gt hB.1 hB.2.1 h1 ht (fun z => (kt ((iI_lt (show inI 0 by omega) hx).mp z)) D cI cL ad ad0 n0 A p e s m args below meth c H locs ls hd hB hWd hag hn hA hS hl) (fun z => (kf (fun e0 => z ((iI_lt (show inI 0 by omega) hx).mpr e0))) D cI cL ad ad0 n0 A p e s m args below meth c H locs ls hd hB hWd hag hn hA hS hl)

theorem Z_if_le (k : Nat) {x off : Int} {tgt : Nat} (h : X.I[k]? = some (pc, .ifCond .le off, 3, n)) (ht : (pc : Int) + off = (tgt : Int)) (hx : inI x) (kt : x ≤ 0 → Z X kc ks mem tgt lv st) (kf : ¬ x ≤ 0 → Z X kc ks mem n lv st) : Z X kc ks mem pc lv (.int (iI x) :: st) := by
  intro D cI cL ad ad0 n0 A p e s m args below meth c H locs ls hd hB hWd hag hn hA hS hl
  obtain ⟨h1, rfl⟩ := zI_dec hd h
  exact lv_if_le hB.1 hB.2.1 h1 ht (fun z => (kt ((iI_le hx (show inI 0 by omega)).mp z)) D cI cL ad ad0 n0 A p e s m args below meth c H locs ls hd hB hWd hag hn hA hS hl) (fun z => (kf (fun e0 => z ((iI_le hx (show inI 0 by omega)).mpr e0))) D cI cL ad ad0 n0 A p e s m args below meth c H locs ls hd hB hWd hag hn hA hS hl)

theorem Z_ifr_eq (k : Nat) {x : Int32} {off : Int} {tgt : Nat} (h : X.I[k]? = some (pc, .ifCond .eq off, 3, n)) (ht : (pc : Int) + off = (tgt : Int)) (kt : x = 0 → Z X kc ks mem tgt lv st) (kf : ¬ x = 0 → Z X kc ks mem n lv st) : Z X kc ks mem pc lv (.int x :: st) := by
  intro D cI cL ad ad0 n0 A p e s m args below meth c H locs ls hd hB hWd hag hn hA hS hl
  obtain ⟨h1, rfl⟩ := zI_dec hd h
  exact lv_if_eq hB.1 hB.2.1 h1 ht (fun z => (kt z) D cI cL ad ad0 n0 A p e s m args below meth c H locs ls hd hB hWd hag hn hA hS hl) (fun z => (kf z) D cI cL ad ad0 n0 A p e s m args below meth c H locs ls hd hB hWd hag hn hA hS hl)

theorem Z_ifr_ne (k : Nat) {x : Int32} {off : Int} {tgt : Nat} (h : X.I[k]? = some (pc, .ifCond .ne off, 3, n)) (ht : (pc : Int) + off = (tgt : Int)) (kt : ¬ x = 0 → Z X kc ks mem tgt lv st) (kf : x = 0 → Z X kc ks mem n lv st) : Z X kc ks mem pc lv (.int x :: st) := by
  intro D cI cL ad ad0 n0 A p e s m args below meth c H locs ls hd hB hWd hag hn hA hS hl
  obtain ⟨h1, rfl⟩ := zI_dec hd h
  exact lv_if_ne hB.1 hB.2.1 h1 ht (fun z => (kt z) D cI cL ad ad0 n0 A p e s m args below meth c H locs ls hd hB hWd hag hn hA hS hl) (fun z => (kf z) D cI cL ad ad0 n0 A p e s m args below meth c H locs ls hd hB hWd hag hn hA hS hl)

theorem lg_cmp_i {x y : Int} (hx : inL x) (hy : inL y) : lg_cmp (lI x) (lI y) = iI (if y < x then 1 else if x = y then 0 else -1) := by
  unfold lg_cmp
  simp only [lI_lt hy hx, lI_eq hx hy, lI_lt hx hy]
  repeat' split
  all_goals first | rfl | (exfalso; omega)

theorem Z_lcmp (k : Nat) {x y : Int} (h : X.I[k]? = some (pc, .lcmp, 1, n)) (hx : inL x) (hy : inL y) (kk : Z X kc ks mem n lv (.int (iI (if y < x then 1 else if x = y then 0 else -1)) :: st)) : Z X kc ks mem pc lv (.long (lI y) :: .long (lI x) :: st) := by
  intro D cI cL ad ad0 n0 A p e s m args below meth c H locs ls hd hB hWd hag hn hA hS hl
  obtain ⟨h1, rfl⟩ := zI_dec hd h
  rw [← lg_cmp_i hx hy] at kk
  exact W.lcmp hB.1 hB.2.1 h1 (kk D cI cL ad ad0 n0 A p e s m args below meth c H locs ls hd hB hWd hag hn hA hS hl)

theorem Z_lc_eq (k : Nat) {x y off : Int} {tgt n1 : Nat} (h : X.I[k]? = some (pc, .lcmp, 1, n1)) (h2 : X.I[k + 1]? = some (n1, .ifCond .eq off, 3, n)) (ht : (n1 : Int) + off = (tgt : Int)) (hx : inL x) (hy : inL y) (kt : x = y → Z X kc ks mem tgt lv st) (kf : x ≠ y → Z X kc ks mem n lv st) : Z X kc ks mem pc lv (.long (lI y) :: .long (lI x) :: st) :=
  Z_lcmp k h hx hy (Z_if_eq (k + 1) h2 ht (by split <;> (try split) <;> omega) (fun z => kt (by split at z <;> (try split at z) <;> omega)) (fun z => kf (by split at z <;> (try split at z) <;> omega)))

theorem Z_lc_ne (k : Nat) {x y off : Int} {tgt n1 : Nat} (h : X.I[k]? = some (pc, .lcmp, 1, n1)) (h2 : X.I[k + 1]? = some (n1, .ifCond .ne off, 3, n)) (ht : (n1 : Int) + off = (tgt : Int)) (hx : inL x) (hy : inL y) (kt : x ≠ y → Z X kc ks mem tgt lv st) (kf : x = y → Z X kc ks mem n lv st) : Z X kc ks mem pc lv (.long (lI y) :: .long (lI x) :: st) :=
  Z_lcmp k h hx hy (Z_if_ne (k + 1) h2 ht (by split <;> (try split) <;> omega) (fun z => kt (by split at z <;> (try split at z) <;> omega)) (fun z => kf (by split at z <;> (try split at z) <;> omega)))

theorem Z_lc_lt (k : Nat) {x y off : Int} {tgt n1 : Nat} (h : X.I[k]? = some (pc, .lcmp, 1, n1)) (h2 : X.I[k + 1]? = some (n1, .ifCond .lt off, 3, n)) (ht : (n1 : Int) + off = (tgt : Int)) (hx : inL x) (hy : inL y) (kt : x < y → Z X kc ks mem tgt lv st) (kf : ¬ x < y → Z X kc ks mem n lv st) : Z X kc ks mem pc lv (.long (lI y) :: .long (lI x) :: st) :=
  Z_lcmp k h hx hy (Z_if_lt (k + 1) h2 ht (by split <;> (try split) <;> omega) (fun z => kt (by split at z <;> (try split at z) <;> omega)) (fun z => kf (by split at z <;> (try split at z) <;> omega)))

theorem Z_lc_ge (k : Nat) {x y off : Int} {tgt n1 : Nat} (h : X.I[k]? = some (pc, .lcmp, 1, n1)) (h2 : X.I[k + 1]? = some (n1, .ifCond .ge off, 3, n)) (ht : (n1 : Int) + off = (tgt : Int)) (hx : inL x) (hy : inL y) (kt : y ≤ x → Z X kc ks mem tgt lv st) (kf : ¬ y ≤ x → Z X kc ks mem n lv st) : Z X kc ks mem pc lv (.long (lI y) :: .long (lI x) :: st) :=
  Z_lcmp k h hx hy (Z_if_ge (k + 1) h2 ht (by split <;> (try split) <;> omega) (fun z => kt (by split at z <;> (try split at z) <;> omega)) (fun z => kf (by split at z <;> (try split at z) <;> omega)))

theorem Z_lc_gt (k : Nat) {x y off : Int} {tgt n1 : Nat} (h : X.I[k]? = some (pc, .lcmp, 1, n1)) (h2 : X.I[k + 1]? = some (n1, .ifCond .gt off, 3, n)) (ht : (n1 : Int) + off = (tgt : Int)) (hx : inL x) (hy : inL y) (kt : y < x → Z X kc ks mem tgt lv st) (kf : ¬ y < x → Z X kc ks mem n lv st) : Z X kc ks mem pc lv (.long (lI y) :: .long (lI x) :: st) :=
  Z_lcmp k h hx hy (Z_if_gt (k + 1) h2 ht (by split <;> (try split) <;> omega) (fun z => kt (by split at z <;> (try split at z) <;> omega)) (fun z => kf (by split at z <;> (try split at z) <;> omega)))

theorem Z_lc_le (k : Nat) {x y off : Int} {tgt n1 : Nat} (h : X.I[k]? = some (pc, .lcmp, 1, n1)) (h2 : X.I[k + 1]? = some (n1, .ifCond .le off, 3, n)) (ht : (n1 : Int) + off = (tgt : Int)) (hx : inL x) (hy : inL y) (kt : x ≤ y → Z X kc ks mem tgt lv st) (kf : ¬ x ≤ y → Z X kc ks mem n lv st) : Z X kc ks mem pc lv (.long (lI y) :: .long (lI x) :: st) :=
  Z_lcmp k h hx hy (Z_if_le (k + 1) h2 ht (by split <;> (try split) <;> omega) (fun z => kt (by split at z <;> (try split at z) <;> omega)) (fun z => kf (by split at z <;> (try split at z) <;> omega)))

end ZR
end
