section
-- out of kit/laws/SKELETON.whole.lean.txt, PART A (a starting text)
/-- a private method of a class that the tables say can be made, by its rows of tables_1 -/
def lw_okq (q : MethodName × Nat) : Prop := (q.1.cls ≠ "java/lang/invoke/MethodHandle" ∧ q.1.cls ≠ "java/lang/invoke/VarHandle") ∧ Cond.instantiable q.1.cls q.2 ∈ tables_1 ∧ Cond.privateMethod q.1 ∈ tables_1 ∧ Cond.instanceMethod q.1 ∈ tables_1
theorem lw_p0 : lw_okq (⟨"PrintsGoOn$ShoreReader", "clear", "()V"⟩, 8) := ⟨⟨by decide +kernel, by decide +kernel⟩, List.mem_of_getElem? (i := 66) (by decide +kernel), List.mem_of_getElem? (i := 353) (by decide +kernel), List.mem_of_getElem? (i := 354) (by decide +kernel)⟩
theorem lw_p1 : lw_okq (⟨"PrintsGoOn$ShoreReader", "readClause", "()Z"⟩, 8) := ⟨⟨by decide +kernel, by decide +kernel⟩, List.mem_of_getElem? (i := 66) (by decide +kernel), List.mem_of_getElem? (i := 366) (by decide +kernel), List.mem_of_getElem? (i := 367) (by decide +kernel)⟩
theorem lw_p2 : lw_okq (⟨"PrintsGoOn$ShoreReader", "readItems", "([I[II)Z"⟩, 8) := ⟨⟨by decide +kernel, by decide +kernel⟩, List.mem_of_getElem? (i := 66) (by decide +kernel), List.mem_of_getElem? (i := 374) (by decide +kernel), List.mem_of_getElem? (i := 375) (by decide +kernel)⟩
theorem lw_p3 : lw_okq (⟨"PrintsGoOn$ShoreReader", "endsClause", "()Z"⟩, 8) := ⟨⟨by decide +kernel, by decide +kernel⟩, List.mem_of_getElem? (i := 66) (by decide +kernel), List.mem_of_getElem? (i := 381) (by decide +kernel), List.mem_of_getElem? (i := 382) (by decide +kernel)⟩
theorem lw_p4 : lw_okq (⟨"PrintsGoOn$ShoreReader", "readRow", "(I)Z"⟩, 8) := ⟨⟨by decide +kernel, by decide +kernel⟩, List.mem_of_getElem? (i := 66) (by decide +kernel), List.mem_of_getElem? (i := 399) (by decide +kernel), List.mem_of_getElem? (i := 400) (by decide +kernel)⟩
theorem lw_p5 : lw_okq (⟨"PrintsGoOn$ShoreReader", "agrees", "()Z"⟩, 8) := ⟨⟨by decide +kernel, by decide +kernel⟩, List.mem_of_getElem? (i := 66) (by decide +kernel), List.mem_of_getElem? (i := 409) (by decide +kernel), List.mem_of_getElem? (i := 410) (by decide +kernel)⟩
theorem lw_p6 : lw_okq (⟨"PrintsGoOn$LawReader", "readClause", "()Z"⟩, 3) := ⟨⟨by decide +kernel, by decide +kernel⟩, List.mem_of_getElem? (i := 97) (by decide +kernel), List.mem_of_getElem? (i := 423) (by decide +kernel), List.mem_of_getElem? (i := 424) (by decide +kernel)⟩
theorem lw_p7 : lw_okq (⟨"PrintsGoOn$LawReader", "readSum", "(I)Z"⟩, 3) := ⟨⟨by decide +kernel, by decide +kernel⟩, List.mem_of_getElem? (i := 97) (by decide +kernel), List.mem_of_getElem? (i := 428) (by decide +kernel), List.mem_of_getElem? (i := 429) (by decide +kernel)⟩
theorem lw_p8 : lw_okq (⟨"PrintsGoOn$LawReader", "readAtom", "(I)Z"⟩, 3) := ⟨⟨by decide +kernel, by decide +kernel⟩, List.mem_of_getElem? (i := 97) (by decide +kernel), List.mem_of_getElem? (i := 432) (by decide +kernel), List.mem_of_getElem? (i := 433) (by decide +kernel)⟩
theorem lw_p9 : lw_okq (⟨"PrintsGoOn$LawReader", "put", "(I)V"⟩, 3) := ⟨⟨by decide +kernel, by decide +kernel⟩, List.mem_of_getElem? (i := 97) (by decide +kernel), List.mem_of_getElem? (i := 437) (by decide +kernel), List.mem_of_getElem? (i := 438) (by decide +kernel)⟩
theorem lw_p10 : lw_okq (⟨"PrintsGoOn$LawReader", "readCondition", "(IZ)Z"⟩, 3) := ⟨⟨by decide +kernel, by decide +kernel⟩, List.mem_of_getElem? (i := 97) (by decide +kernel), List.mem_of_getElem? (i := 453) (by decide +kernel), List.mem_of_getElem? (i := 454) (by decide +kernel)⟩
theorem lw_p11 : lw_okq (⟨"PrintsGoOn$LawReader", "readCompared", "(I)Z"⟩, 3) := ⟨⟨by decide +kernel, by decide +kernel⟩, List.mem_of_getElem? (i := 97) (by decide +kernel), List.mem_of_getElem? (i := 457) (by decide +kernel), List.mem_of_getElem? (i := 458) (by decide +kernel)⟩
theorem lw_p12 : lw_okq (⟨"PrintsGoOn$LawReader", "readUnit", "(I)Z"⟩, 3) := ⟨⟨by decide +kernel, by decide +kernel⟩, List.mem_of_getElem? (i := 97) (by decide +kernel), List.mem_of_getElem? (i := 461) (by decide +kernel), List.mem_of_getElem? (i := 462) (by decide +kernel)⟩
theorem lw_p13 : lw_okq (⟨"PrintsGoOn$EveningReader", "readStep", "(I)Z"⟩, 3) := ⟨⟨by decide +kernel, by decide +kernel⟩, List.mem_of_getElem? (i := 113) (by decide +kernel), List.mem_of_getElem? (i := 474) (by decide +kernel), List.mem_of_getElem? (i := 475) (by decide +kernel)⟩
theorem lw_p14 : lw_okq (⟨"PrintsGoOn$EveningReader", "putStep", "(IIII)Z"⟩, 3) := ⟨⟨by decide +kernel, by decide +kernel⟩, List.mem_of_getElem? (i := 113) (by decide +kernel), List.mem_of_getElem? (i := 479) (by decide +kernel), List.mem_of_getElem? (i := 480) (by decide +kernel)⟩
theorem lw_p15 : lw_okq (⟨"PrintsGoOn$EveningReader", "readDigits", "(IIZ)Z"⟩, 3) := ⟨⟨by decide +kernel, by decide +kernel⟩, List.mem_of_getElem? (i := 113) (by decide +kernel), List.mem_of_getElem? (i := 483) (by decide +kernel), List.mem_of_getElem? (i := 484) (by decide +kernel)⟩
def lw_privs_1 : List (MethodName × Nat) := [(⟨"PrintsGoOn$ShoreReader", "clear", "()V"⟩, 8), (⟨"PrintsGoOn$ShoreReader", "readClause", "()Z"⟩, 8), (⟨"PrintsGoOn$ShoreReader", "readItems", "([I[II)Z"⟩, 8), (⟨"PrintsGoOn$ShoreReader", "endsClause", "()Z"⟩, 8), (⟨"PrintsGoOn$ShoreReader", "readRow", "(I)Z"⟩, 8), (⟨"PrintsGoOn$ShoreReader", "agrees", "()Z"⟩, 8), (⟨"PrintsGoOn$LawReader", "readClause", "()Z"⟩, 3), (⟨"PrintsGoOn$LawReader", "readSum", "(I)Z"⟩, 3), (⟨"PrintsGoOn$LawReader", "readAtom", "(I)Z"⟩, 3), (⟨"PrintsGoOn$LawReader", "put", "(I)V"⟩, 3), (⟨"PrintsGoOn$LawReader", "readCondition", "(IZ)Z"⟩, 3), (⟨"PrintsGoOn$LawReader", "readCompared", "(I)Z"⟩, 3), (⟨"PrintsGoOn$LawReader", "readUnit", "(I)Z"⟩, 3), (⟨"PrintsGoOn$EveningReader", "readStep", "(I)Z"⟩, 3), (⟨"PrintsGoOn$EveningReader", "putStep", "(IIII)Z"⟩, 3), (⟨"PrintsGoOn$EveningReader", "readDigits", "(IIZ)Z"⟩, 3)]
theorem lw_r1 : ∀ q ∈ lw_privs_1, lw_okq q := List.forall_mem_cons.mpr ⟨lw_p0, List.forall_mem_cons.mpr ⟨lw_p1, List.forall_mem_cons.mpr ⟨lw_p2, List.forall_mem_cons.mpr ⟨lw_p3, List.forall_mem_cons.mpr ⟨lw_p4, List.forall_mem_cons.mpr ⟨lw_p5, List.forall_mem_cons.mpr ⟨lw_p6, List.forall_mem_cons.mpr ⟨lw_p7, List.forall_mem_cons.mpr ⟨lw_p8, List.forall_mem_cons.mpr ⟨lw_p9, List.forall_mem_cons.mpr ⟨lw_p10, List.forall_mem_cons.mpr ⟨lw_p11, List.forall_mem_cons.mpr ⟨lw_p12, List.forall_mem_cons.mpr ⟨lw_p13, List.forall_mem_cons.mpr ⟨lw_p14, List.forall_mem_cons.mpr ⟨lw_p15, fun _ h => absurd h List.not_mem_nil⟩⟩⟩⟩⟩⟩⟩⟩⟩⟩⟩⟩⟩⟩⟩⟩
theorem lw_p16 : lw_okq (⟨"PrintsGoOn", "takeShore", "()I"⟩, 18) := ⟨⟨by decide +kernel, by decide +kernel⟩, List.mem_of_getElem? (i := 27) (by decide +kernel), List.mem_of_getElem? (i := 498) (by decide +kernel), List.mem_of_getElem? (i := 499) (by decide +kernel)⟩
theorem lw_p17 : lw_okq (⟨"PrintsGoOn", "passNow", "()I"⟩, 18) := ⟨⟨by decide +kernel, by decide +kernel⟩, List.mem_of_getElem? (i := 27) (by decide +kernel), List.mem_of_getElem? (i := 615) (by decide +kernel), List.mem_of_getElem? (i := 616) (by decide +kernel)⟩
theorem lw_p18 : lw_okq (⟨"PrintsGoOn$Walker", "liesAhead", "(LPrintsGoOn$Scene;II)I"⟩, 5) := ⟨⟨by decide +kernel, by decide +kernel⟩, List.mem_of_getElem? (i := 150) (by decide +kernel), List.mem_of_getElem? (i := 632) (by decide +kernel), List.mem_of_getElem? (i := 633) (by decide +kernel)⟩
theorem lw_p19 : lw_okq (⟨"PrintsGoOn$Walker", "lawfulLook", "(LPrintsGoOn$Scene;III)I"⟩, 5) := ⟨⟨by decide +kernel, by decide +kernel⟩, List.mem_of_getElem? (i := 150) (by decide +kernel), List.mem_of_getElem? (i := 645) (by decide +kernel), List.mem_of_getElem? (i := 646) (by decide +kernel)⟩
theorem lw_p20 : lw_okq (⟨"PrintsGoOn$Walker", "turnThoseMet", "(LPrintsGoOn$Scene;)I"⟩, 5) := ⟨⟨by decide +kernel, by decide +kernel⟩, List.mem_of_getElem? (i := 150) (by decide +kernel), List.mem_of_getElem? (i := 663) (by decide +kernel), List.mem_of_getElem? (i := 664) (by decide +kernel)⟩
theorem lw_p21 : lw_okq (⟨"PrintsGoOn", "draw", "(I)I"⟩, 18) := ⟨⟨by decide +kernel, by decide +kernel⟩, List.mem_of_getElem? (i := 27) (by decide +kernel), List.mem_of_getElem? (i := 752) (by decide +kernel), List.mem_of_getElem? (i := 753) (by decide +kernel)⟩
theorem lw_p22 : lw_okq (⟨"PrintsGoOn", "eveningOf", "(I)LPrintsGoOn$Evening;"⟩, 18) := ⟨⟨by decide +kernel, by decide +kernel⟩, List.mem_of_getElem? (i := 27) (by decide +kernel), List.mem_of_getElem? (i := 782) (by decide +kernel), List.mem_of_getElem? (i := 783) (by decide +kernel)⟩
theorem lw_p23 : lw_okq (⟨"PrintsGoOn$Scene", "widened", "(II)I"⟩, 1) := ⟨⟨by decide +kernel, by decide +kernel⟩, List.mem_of_getElem? (i := 133) (by decide +kernel), List.mem_of_getElem? (i := 877) (by decide +kernel), List.mem_of_getElem? (i := 878) (by decide +kernel)⟩
theorem lw_p24 : lw_okq (⟨"PrintsGoOn$Foresight", "keepsApart", "(IIIII)Z"⟩, 9) := ⟨⟨by decide +kernel, by decide +kernel⟩, List.mem_of_getElem? (i := 204) (by decide +kernel), List.mem_of_getElem? (i := 890) (by decide +kernel), List.mem_of_getElem? (i := 891) (by decide +kernel)⟩
theorem lw_p25 : lw_okq (⟨"PrintsGoOn$Foresight", "layRock", "(I)V"⟩, 9) := ⟨⟨by decide +kernel, by decide +kernel⟩, List.mem_of_getElem? (i := 204) (by decide +kernel), List.mem_of_getElem? (i := 894) (by decide +kernel), List.mem_of_getElem? (i := 895) (by decide +kernel)⟩
theorem lw_p26 : lw_okq (⟨"PrintsGoOn$Foresight", "isFree", "(I)Z"⟩, 9) := ⟨⟨by decide +kernel, by decide +kernel⟩, List.mem_of_getElem? (i := 204) (by decide +kernel), List.mem_of_getElem? (i := 903) (by decide +kernel), List.mem_of_getElem? (i := 904) (by decide +kernel)⟩
theorem lw_p27 : lw_okq (⟨"PrintsGoOn$Sightings", "trace", "(II)V"⟩, 9) := ⟨⟨by decide +kernel, by decide +kernel⟩, List.mem_of_getElem? (i := 240) (by decide +kernel), List.mem_of_getElem? (i := 929) (by decide +kernel), List.mem_of_getElem? (i := 930) (by decide +kernel)⟩
theorem lw_p28 : lw_okq (⟨"PrintsGoOn$Sightings", "agrees", "(II)Z"⟩, 9) := ⟨⟨by decide +kernel, by decide +kernel⟩, List.mem_of_getElem? (i := 240) (by decide +kernel), List.mem_of_getElem? (i := 935) (by decide +kernel), List.mem_of_getElem? (i := 936) (by decide +kernel)⟩
theorem lw_p29 : lw_okq (⟨"PrintsGoOn$Sightings", "mostAlike", "(II)I"⟩, 9) := ⟨⟨by decide +kernel, by decide +kernel⟩, List.mem_of_getElem? (i := 240) (by decide +kernel), List.mem_of_getElem? (i := 960) (by decide +kernel), List.mem_of_getElem? (i := 961) (by decide +kernel)⟩
theorem lw_p30 : lw_okq (⟨"PrintsGoOn$Foresight", "isRest", "(II)Z"⟩, 9) := ⟨⟨by decide +kernel, by decide +kernel⟩, List.mem_of_getElem? (i := 204) (by decide +kernel), List.mem_of_getElem? (i := 992) (by decide +kernel), List.mem_of_getElem? (i := 993) (by decide +kernel)⟩
theorem lw_p31 : lw_okq (⟨"PrintsGoOn$Foresight", "partsOf", "(IIII)I"⟩, 9) := ⟨⟨by decide +kernel, by decide +kernel⟩, List.mem_of_getElem? (i := 204) (by decide +kernel), List.mem_of_getElem? (i := 1009) (by decide +kernel), List.mem_of_getElem? (i := 1010) (by decide +kernel)⟩
def lw_privs_2 : List (MethodName × Nat) := [(⟨"PrintsGoOn", "takeShore", "()I"⟩, 18), (⟨"PrintsGoOn", "passNow", "()I"⟩, 18), (⟨"PrintsGoOn$Walker", "liesAhead", "(LPrintsGoOn$Scene;II)I"⟩, 5), (⟨"PrintsGoOn$Walker", "lawfulLook", "(LPrintsGoOn$Scene;III)I"⟩, 5), (⟨"PrintsGoOn$Walker", "turnThoseMet", "(LPrintsGoOn$Scene;)I"⟩, 5), (⟨"PrintsGoOn", "draw", "(I)I"⟩, 18), (⟨"PrintsGoOn", "eveningOf", "(I)LPrintsGoOn$Evening;"⟩, 18), (⟨"PrintsGoOn$Scene", "widened", "(II)I"⟩, 1), (⟨"PrintsGoOn$Foresight", "keepsApart", "(IIIII)Z"⟩, 9), (⟨"PrintsGoOn$Foresight", "layRock", "(I)V"⟩, 9), (⟨"PrintsGoOn$Foresight", "isFree", "(I)Z"⟩, 9), (⟨"PrintsGoOn$Sightings", "trace", "(II)V"⟩, 9), (⟨"PrintsGoOn$Sightings", "agrees", "(II)Z"⟩, 9), (⟨"PrintsGoOn$Sightings", "mostAlike", "(II)I"⟩, 9), (⟨"PrintsGoOn$Foresight", "isRest", "(II)Z"⟩, 9), (⟨"PrintsGoOn$Foresight", "partsOf", "(IIII)I"⟩, 9)]
theorem lw_r2 : ∀ q ∈ lw_privs_2, lw_okq q := List.forall_mem_cons.mpr ⟨lw_p16, List.forall_mem_cons.mpr ⟨lw_p17, List.forall_mem_cons.mpr ⟨lw_p18, List.forall_mem_cons.mpr ⟨lw_p19, List.forall_mem_cons.mpr ⟨lw_p20, List.forall_mem_cons.mpr ⟨lw_p21, List.forall_mem_cons.mpr ⟨lw_p22, List.forall_mem_cons.mpr ⟨lw_p23, List.forall_mem_cons.mpr ⟨lw_p24, List.forall_mem_cons.mpr ⟨lw_p25, List.forall_mem_cons.mpr ⟨lw_p26, List.forall_mem_cons.mpr ⟨lw_p27, List.forall_mem_cons.mpr ⟨lw_p28, List.forall_mem_cons.mpr ⟨lw_p29, List.forall_mem_cons.mpr ⟨lw_p30, List.forall_mem_cons.mpr ⟨lw_p31, fun _ h => absurd h List.not_mem_nil⟩⟩⟩⟩⟩⟩⟩⟩⟩⟩⟩⟩⟩⟩⟩⟩
theorem lw_p32 : lw_okq (⟨"PrintsGoOn$Scene", "reached", "(II)I"⟩, 1) := ⟨⟨by decide +kernel, by decide +kernel⟩, List.mem_of_getElem? (i := 133) (by decide +kernel), List.mem_of_getElem? (i := 1045) (by decide +kernel), List.mem_of_getElem? (i := 1046) (by decide +kernel)⟩
theorem lw_p33 : lw_okq (⟨"PrintsGoOn$Scene", "looksAt", "(II)Z"⟩, 1) := ⟨⟨by decide +kernel, by decide +kernel⟩, List.mem_of_getElem? (i := 133) (by decide +kernel), List.mem_of_getElem? (i := 1062) (by decide +kernel), List.mem_of_getElem? (i := 1063) (by decide +kernel)⟩
theorem lw_p34 : lw_okq (⟨"java/lang/Throwable", "fillInStackTrace", "(I)Ljava/lang/Throwable;"⟩, 6) := ⟨⟨by decide +kernel, by decide +kernel⟩, List.mem_of_getElem? (i := 1130) (by decide +kernel), List.mem_of_getElem? (i := 1128) (by decide +kernel), List.mem_of_getElem? (i := 1129) (by decide +kernel)⟩
theorem lw_p35 : lw_okq (⟨"PrintsGoOnModel", "put", "(I)V"⟩, 51) := ⟨⟨by decide +kernel, by decide +kernel⟩, List.mem_of_getElem? (i := 1161) (by decide +kernel), List.mem_of_getElem? (i := 1334) (by decide +kernel), List.mem_of_getElem? (i := 1335) (by decide +kernel)⟩
theorem lw_p36 : lw_okq (⟨"PrintsGoOnModel", "readShore", "()V"⟩, 51) := ⟨⟨by decide +kernel, by decide +kernel⟩, List.mem_of_getElem? (i := 1161) (by decide +kernel), List.mem_of_getElem? (i := 1350) (by decide +kernel), List.mem_of_getElem? (i := 1351) (by decide +kernel)⟩
theorem lw_p37 : lw_okq (⟨"PrintsGoOnModel", "starts", "([BII)V"⟩, 51) := ⟨⟨by decide +kernel, by decide +kernel⟩, List.mem_of_getElem? (i := 1161) (by decide +kernel), List.mem_of_getElem? (i := 1354) (by decide +kernel), List.mem_of_getElem? (i := 1355) (by decide +kernel)⟩
theorem lw_p38 : lw_okq (⟨"PrintsGoOnModel", "readClause", "()V"⟩, 51) := ⟨⟨by decide +kernel, by decide +kernel⟩, List.mem_of_getElem? (i := 1161) (by decide +kernel), List.mem_of_getElem? (i := 1361) (by decide +kernel), List.mem_of_getElem? (i := 1362) (by decide +kernel)⟩
theorem lw_p39 : lw_okq (⟨"PrintsGoOnModel", "look", "()I"⟩, 51) := ⟨⟨by decide +kernel, by decide +kernel⟩, List.mem_of_getElem? (i := 1161) (by decide +kernel), List.mem_of_getElem? (i := 1365) (by decide +kernel), List.mem_of_getElem? (i := 1366) (by decide +kernel)⟩
theorem lw_p40 : lw_okq (⟨"PrintsGoOnModel", "fails", "()Z"⟩, 51) := ⟨⟨by decide +kernel, by decide +kernel⟩, List.mem_of_getElem? (i := 1161) (by decide +kernel), List.mem_of_getElem? (i := 1369) (by decide +kernel), List.mem_of_getElem? (i := 1370) (by decide +kernel)⟩
theorem lw_p41 : lw_okq (⟨"PrintsGoOnModel", "readItems", "(I[IILjava/lang/String;)V"⟩, 51) := ⟨⟨by decide +kernel, by decide +kernel⟩, List.mem_of_getElem? (i := 1161) (by decide +kernel), List.mem_of_getElem? (i := 1374) (by decide +kernel), List.mem_of_getElem? (i := 1375) (by decide +kernel)⟩
theorem lw_p42 : lw_okq (⟨"PrintsGoOnModel", "number", "(II)I"⟩, 51) := ⟨⟨by decide +kernel, by decide +kernel⟩, List.mem_of_getElem? (i := 1161) (by decide +kernel), List.mem_of_getElem? (i := 1438) (by decide +kernel), List.mem_of_getElem? (i := 1439) (by decide +kernel)⟩
theorem lw_p43 : lw_okq (⟨"PrintsGoOnModel", "isDigit", "()Z"⟩, 51) := ⟨⟨by decide +kernel, by decide +kernel⟩, List.mem_of_getElem? (i := 1161) (by decide +kernel), List.mem_of_getElem? (i := 1442) (by decide +kernel), List.mem_of_getElem? (i := 1443) (by decide +kernel)⟩
theorem lw_p44 : lw_okq (⟨"PrintsGoOnModel", "here", "()I"⟩, 51) := ⟨⟨by decide +kernel, by decide +kernel⟩, List.mem_of_getElem? (i := 1161) (by decide +kernel), List.mem_of_getElem? (i := 1446) (by decide +kernel), List.mem_of_getElem? (i := 1447) (by decide +kernel)⟩
theorem lw_p45 : lw_okq (⟨"PrintsGoOnModel", "readRow", "()V"⟩, 51) := ⟨⟨by decide +kernel, by decide +kernel⟩, List.mem_of_getElem? (i := 1161) (by decide +kernel), List.mem_of_getElem? (i := 1450) (by decide +kernel), List.mem_of_getElem? (i := 1451) (by decide +kernel)⟩
theorem lw_p46 : lw_okq (⟨"PrintsGoOnModel", "isWhole", "()Z"⟩, 51) := ⟨⟨by decide +kernel, by decide +kernel⟩, List.mem_of_getElem? (i := 1161) (by decide +kernel), List.mem_of_getElem? (i := 1455) (by decide +kernel), List.mem_of_getElem? (i := 1456) (by decide +kernel)⟩
theorem lw_p47 : lw_okq (⟨"PrintsGoOnModel", "goThrough", "([BII)V"⟩, 51) := ⟨⟨by decide +kernel, by decide +kernel⟩, List.mem_of_getElem? (i := 1161) (by decide +kernel), List.mem_of_getElem? (i := 1459) (by decide +kernel), List.mem_of_getElem? (i := 1460) (by decide +kernel)⟩
def lw_privs_3 : List (MethodName × Nat) := [(⟨"PrintsGoOn$Scene", "reached", "(II)I"⟩, 1), (⟨"PrintsGoOn$Scene", "looksAt", "(II)Z"⟩, 1), (⟨"java/lang/Throwable", "fillInStackTrace", "(I)Ljava/lang/Throwable;"⟩, 6), (⟨"PrintsGoOnModel", "put", "(I)V"⟩, 51), (⟨"PrintsGoOnModel", "readShore", "()V"⟩, 51), (⟨"PrintsGoOnModel", "starts", "([BII)V"⟩, 51), (⟨"PrintsGoOnModel", "readClause", "()V"⟩, 51), (⟨"PrintsGoOnModel", "look", "()I"⟩, 51), (⟨"PrintsGoOnModel", "fails", "()Z"⟩, 51), (⟨"PrintsGoOnModel", "readItems", "(I[IILjava/lang/String;)V"⟩, 51), (⟨"PrintsGoOnModel", "number", "(II)I"⟩, 51), (⟨"PrintsGoOnModel", "isDigit", "()Z"⟩, 51), (⟨"PrintsGoOnModel", "here", "()I"⟩, 51), (⟨"PrintsGoOnModel", "readRow", "()V"⟩, 51), (⟨"PrintsGoOnModel", "isWhole", "()Z"⟩, 51), (⟨"PrintsGoOnModel", "goThrough", "([BII)V"⟩, 51)]
theorem lw_r3 : ∀ q ∈ lw_privs_3, lw_okq q := List.forall_mem_cons.mpr ⟨lw_p32, List.forall_mem_cons.mpr ⟨lw_p33, List.forall_mem_cons.mpr ⟨lw_p34, List.forall_mem_cons.mpr ⟨lw_p35, List.forall_mem_cons.mpr ⟨lw_p36, List.forall_mem_cons.mpr ⟨lw_p37, List.forall_mem_cons.mpr ⟨lw_p38, List.forall_mem_cons.mpr ⟨lw_p39, List.forall_mem_cons.mpr ⟨lw_p40, List.forall_mem_cons.mpr ⟨lw_p41, List.forall_mem_cons.mpr ⟨lw_p42, List.forall_mem_cons.mpr ⟨lw_p43, List.forall_mem_cons.mpr ⟨lw_p44, List.forall_mem_cons.mpr ⟨lw_p45, List.forall_mem_cons.mpr ⟨lw_p46, List.forall_mem_cons.mpr ⟨lw_p47, fun _ h => absurd h List.not_mem_nil⟩⟩⟩⟩⟩⟩⟩⟩⟩⟩⟩⟩⟩⟩⟩⟩
theorem lw_p48 : lw_okq (⟨"PrintsGoOnModel", "clause", "()V"⟩, 51) := ⟨⟨by decide +kernel, by decide +kernel⟩, List.mem_of_getElem? (i := 1161) (by decide +kernel), List.mem_of_getElem? (i := 1463) (by decide +kernel), List.mem_of_getElem? (i := 1464) (by decide +kernel)⟩
theorem lw_p49 : lw_okq (⟨"PrintsGoOnModel", "takes", "(I)Z"⟩, 51) := ⟨⟨by decide +kernel, by decide +kernel⟩, List.mem_of_getElem? (i := 1161) (by decide +kernel), List.mem_of_getElem? (i := 1470) (by decide +kernel), List.mem_of_getElem? (i := 1471) (by decide +kernel)⟩
theorem lw_p50 : lw_okq (⟨"PrintsGoOnModel", "condition", "(ZI)Z"⟩, 51) := ⟨⟨by decide +kernel, by decide +kernel⟩, List.mem_of_getElem? (i := 1161) (by decide +kernel), List.mem_of_getElem? (i := 1474) (by decide +kernel), List.mem_of_getElem? (i := 1475) (by decide +kernel)⟩
theorem lw_p51 : lw_okq (⟨"PrintsGoOnModel", "part", "(ZI)Z"⟩, 51) := ⟨⟨by decide +kernel, by decide +kernel⟩, List.mem_of_getElem? (i := 1161) (by decide +kernel), List.mem_of_getElem? (i := 1478) (by decide +kernel), List.mem_of_getElem? (i := 1479) (by decide +kernel)⟩
theorem lw_p52 : lw_okq (⟨"PrintsGoOnModel", "compares", "(ZI)Z"⟩, 51) := ⟨⟨by decide +kernel, by decide +kernel⟩, List.mem_of_getElem? (i := 1161) (by decide +kernel), List.mem_of_getElem? (i := 1482) (by decide +kernel), List.mem_of_getElem? (i := 1483) (by decide +kernel)⟩
theorem lw_p53 : lw_okq (⟨"PrintsGoOnModel", "sum", "()I"⟩, 51) := ⟨⟨by decide +kernel, by decide +kernel⟩, List.mem_of_getElem? (i := 1161) (by decide +kernel), List.mem_of_getElem? (i := 1486) (by decide +kernel), List.mem_of_getElem? (i := 1487) (by decide +kernel)⟩
theorem lw_p54 : lw_okq (⟨"PrintsGoOnModel", "term", "()I"⟩, 51) := ⟨⟨by decide +kernel, by decide +kernel⟩, List.mem_of_getElem? (i := 1161) (by decide +kernel), List.mem_of_getElem? (i := 1490) (by decide +kernel), List.mem_of_getElem? (i := 1491) (by decide +kernel)⟩
theorem lw_p55 : lw_okq (⟨"PrintsGoOnModel", "atom", "()I"⟩, 51) := ⟨⟨by decide +kernel, by decide +kernel⟩, List.mem_of_getElem? (i := 1161) (by decide +kernel), List.mem_of_getElem? (i := 1494) (by decide +kernel), List.mem_of_getElem? (i := 1495) (by decide +kernel)⟩
theorem lw_p56 : lw_okq (⟨"PrintsGoOnModel", "goesIn", "()Z"⟩, 51) := ⟨⟨by decide +kernel, by decide +kernel⟩, List.mem_of_getElem? (i := 1161) (by decide +kernel), List.mem_of_getElem? (i := 1498) (by decide +kernel), List.mem_of_getElem? (i := 1499) (by decide +kernel)⟩
theorem lw_p57 : lw_okq (⟨"PrintsGoOnModel", "unit", "()Z"⟩, 51) := ⟨⟨by decide +kernel, by decide +kernel⟩, List.mem_of_getElem? (i := 1161) (by decide +kernel), List.mem_of_getElem? (i := 1516) (by decide +kernel), List.mem_of_getElem? (i := 1517) (by decide +kernel)⟩
theorem lw_p58 : lw_okq (⟨"PrintsGoOnModel", "readPlan", "()V"⟩, 51) := ⟨⟨by decide +kernel, by decide +kernel⟩, List.mem_of_getElem? (i := 1161) (by decide +kernel), List.mem_of_getElem? (i := 1520) (by decide +kernel), List.mem_of_getElem? (i := 1521) (by decide +kernel)⟩
theorem lw_p59 : lw_okq (⟨"PrintsGoOnModel", "readStep", "(I)V"⟩, 51) := ⟨⟨by decide +kernel, by decide +kernel⟩, List.mem_of_getElem? (i := 1161) (by decide +kernel), List.mem_of_getElem? (i := 1524) (by decide +kernel), List.mem_of_getElem? (i := 1525) (by decide +kernel)⟩
theorem lw_p60 : lw_okq (⟨"PrintsGoOnModel", "digit", "()I"⟩, 51) := ⟨⟨by decide +kernel, by decide +kernel⟩, List.mem_of_getElem? (i := 1161) (by decide +kernel), List.mem_of_getElem? (i := 1529) (by decide +kernel), List.mem_of_getElem? (i := 1530) (by decide +kernel)⟩
theorem lw_p61 : lw_okq (⟨"PrintsGoOnModel", "lays", "([I)V"⟩, 51) := ⟨⟨by decide +kernel, by decide +kernel⟩, List.mem_of_getElem? (i := 1161) (by decide +kernel), List.mem_of_getElem? (i := 1538) (by decide +kernel), List.mem_of_getElem? (i := 1539) (by decide +kernel)⟩
theorem lw_p62 : lw_okq (⟨"PrintsGoOnModel", "cells", "()I"⟩, 51) := ⟨⟨by decide +kernel, by decide +kernel⟩, List.mem_of_getElem? (i := 1161) (by decide +kernel), List.mem_of_getElem? (i := 1542) (by decide +kernel), List.mem_of_getElem? (i := 1543) (by decide +kernel)⟩
theorem lw_p63 : lw_okq (⟨"PrintsGoOnModel", "startOf", "(I)I"⟩, 51) := ⟨⟨by decide +kernel, by decide +kernel⟩, List.mem_of_getElem? (i := 1161) (by decide +kernel), List.mem_of_getElem? (i := 1546) (by decide +kernel), List.mem_of_getElem? (i := 1547) (by decide +kernel)⟩
def lw_privs_4 : List (MethodName × Nat) := [(⟨"PrintsGoOnModel", "clause", "()V"⟩, 51), (⟨"PrintsGoOnModel", "takes", "(I)Z"⟩, 51), (⟨"PrintsGoOnModel", "condition", "(ZI)Z"⟩, 51), (⟨"PrintsGoOnModel", "part", "(ZI)Z"⟩, 51), (⟨"PrintsGoOnModel", "compares", "(ZI)Z"⟩, 51), (⟨"PrintsGoOnModel", "sum", "()I"⟩, 51), (⟨"PrintsGoOnModel", "term", "()I"⟩, 51), (⟨"PrintsGoOnModel", "atom", "()I"⟩, 51), (⟨"PrintsGoOnModel", "goesIn", "()Z"⟩, 51), (⟨"PrintsGoOnModel", "unit", "()Z"⟩, 51), (⟨"PrintsGoOnModel", "readPlan", "()V"⟩, 51), (⟨"PrintsGoOnModel", "readStep", "(I)V"⟩, 51), (⟨"PrintsGoOnModel", "digit", "()I"⟩, 51), (⟨"PrintsGoOnModel", "lays", "([I)V"⟩, 51), (⟨"PrintsGoOnModel", "cells", "()I"⟩, 51), (⟨"PrintsGoOnModel", "startOf", "(I)I"⟩, 51)]
theorem lw_r4 : ∀ q ∈ lw_privs_4, lw_okq q := List.forall_mem_cons.mpr ⟨lw_p48, List.forall_mem_cons.mpr ⟨lw_p49, List.forall_mem_cons.mpr ⟨lw_p50, List.forall_mem_cons.mpr ⟨lw_p51, List.forall_mem_cons.mpr ⟨lw_p52, List.forall_mem_cons.mpr ⟨lw_p53, List.forall_mem_cons.mpr ⟨lw_p54, List.forall_mem_cons.mpr ⟨lw_p55, List.forall_mem_cons.mpr ⟨lw_p56, List.forall_mem_cons.mpr ⟨lw_p57, List.forall_mem_cons.mpr ⟨lw_p58, List.forall_mem_cons.mpr ⟨lw_p59, List.forall_mem_cons.mpr ⟨lw_p60, List.forall_mem_cons.mpr ⟨lw_p61, List.forall_mem_cons.mpr ⟨lw_p62, List.forall_mem_cons.mpr ⟨lw_p63, fun _ h => absurd h List.not_mem_nil⟩⟩⟩⟩⟩⟩⟩⟩⟩⟩⟩⟩⟩⟩⟩⟩
theorem lw_p64 : lw_okq (⟨"PrintsGoOnModel", "isCell", "(I)Z"⟩, 51) := ⟨⟨by decide +kernel, by decide +kernel⟩, List.mem_of_getElem? (i := 1161) (by decide +kernel), List.mem_of_getElem? (i := 1554) (by decide +kernel), List.mem_of_getElem? (i := 1555) (by decide +kernel)⟩
theorem lw_p65 : lw_okq (⟨"PrintsGoOnModel", "isUnder", "([II)Z"⟩, 51) := ⟨⟨by decide +kernel, by decide +kernel⟩, List.mem_of_getElem? (i := 1161) (by decide +kernel), List.mem_of_getElem? (i := 1558) (by decide +kernel), List.mem_of_getElem? (i := 1559) (by decide +kernel)⟩
theorem lw_p66 : lw_okq (⟨"PrintsGoOnModel", "isGoer", "(I)Z"⟩, 51) := ⟨⟨by decide +kernel, by decide +kernel⟩, List.mem_of_getElem? (i := 1161) (by decide +kernel), List.mem_of_getElem? (i := 1566) (by decide +kernel), List.mem_of_getElem? (i := 1567) (by decide +kernel)⟩
theorem lw_p67 : lw_okq (⟨"PrintsGoOnModel", "paceOf", "(I)I"⟩, 51) := ⟨⟨by decide +kernel, by decide +kernel⟩, List.mem_of_getElem? (i := 1161) (by decide +kernel), List.mem_of_getElem? (i := 1571) (by decide +kernel), List.mem_of_getElem? (i := 1572) (by decide +kernel)⟩
theorem lw_p68 : lw_okq (⟨"PrintsGoOnModel", "remember", "()V"⟩, 51) := ⟨⟨by decide +kernel, by decide +kernel⟩, List.mem_of_getElem? (i := 1161) (by decide +kernel), List.mem_of_getElem? (i := 1588) (by decide +kernel), List.mem_of_getElem? (i := 1589) (by decide +kernel)⟩
theorem lw_p69 : lw_okq (⟨"PrintsGoOnModel", "goHour", "([I)I"⟩, 51) := ⟨⟨by decide +kernel, by decide +kernel⟩, List.mem_of_getElem? (i := 1161) (by decide +kernel), List.mem_of_getElem? (i := 1592) (by decide +kernel), List.mem_of_getElem? (i := 1593) (by decide +kernel)⟩
theorem lw_p70 : lw_okq (⟨"PrintsGoOnModel", "passes", "([I)I"⟩, 51) := ⟨⟨by decide +kernel, by decide +kernel⟩, List.mem_of_getElem? (i := 1161) (by decide +kernel), List.mem_of_getElem? (i := 1596) (by decide +kernel), List.mem_of_getElem? (i := 1597) (by decide +kernel)⟩
theorem lw_p71 : lw_okq (⟨"PrintsGoOnModel", "goesOn", "([III)V"⟩, 51) := ⟨⟨by decide +kernel, by decide +kernel⟩, List.mem_of_getElem? (i := 1161) (by decide +kernel), List.mem_of_getElem? (i := 1603) (by decide +kernel), List.mem_of_getElem? (i := 1604) (by decide +kernel)⟩
theorem lw_p72 : lw_okq (⟨"PrintsGoOnModel", "goStep", "([III)V"⟩, 51) := ⟨⟨by decide +kernel, by decide +kernel⟩, List.mem_of_getElem? (i := 1161) (by decide +kernel), List.mem_of_getElem? (i := 1607) (by decide +kernel), List.mem_of_getElem? (i := 1608) (by decide +kernel)⟩
theorem lw_p73 : lw_okq (⟨"PrintsGoOnModel", "turnOf", "([III)I"⟩, 51) := ⟨⟨by decide +kernel, by decide +kernel⟩, List.mem_of_getElem? (i := 1161) (by decide +kernel), List.mem_of_getElem? (i := 1611) (by decide +kernel), List.mem_of_getElem? (i := 1612) (by decide +kernel)⟩
theorem lw_p74 : lw_okq (⟨"PrintsGoOnModel", "aheadOf", "([III)I"⟩, 51) := ⟨⟨by decide +kernel, by decide +kernel⟩, List.mem_of_getElem? (i := 1161) (by decide +kernel), List.mem_of_getElem? (i := 1615) (by decide +kernel), List.mem_of_getElem? (i := 1616) (by decide +kernel)⟩
theorem lw_p75 : lw_okq (⟨"PrintsGoOnModel", "nextCell", "(II)I"⟩, 51) := ⟨⟨by decide +kernel, by decide +kernel⟩, List.mem_of_getElem? (i := 1161) (by decide +kernel), List.mem_of_getElem? (i := 1619) (by decide +kernel), List.mem_of_getElem? (i := 1620) (by decide +kernel)⟩
theorem lw_p76 : lw_okq (⟨"PrintsGoOnModel", "worthOf", "(IIIIII)I"⟩, 51) := ⟨⟨by decide +kernel, by decide +kernel⟩, List.mem_of_getElem? (i := 1161) (by decide +kernel), List.mem_of_getElem? (i := 1623) (by decide +kernel), List.mem_of_getElem? (i := 1624) (by decide +kernel)⟩
theorem lw_p77 : lw_okq (⟨"PrintsGoOnModel", "canTide", "([II)Z"⟩, 51) := ⟨⟨by decide +kernel, by decide +kernel⟩, List.mem_of_getElem? (i := 1161) (by decide +kernel), List.mem_of_getElem? (i := 1632) (by decide +kernel), List.mem_of_getElem? (i := 1633) (by decide +kernel)⟩
theorem lw_p78 : lw_okq (⟨"PrintsGoOnModel", "goingOn", "([II)I"⟩, 51) := ⟨⟨by decide +kernel, by decide +kernel⟩, List.mem_of_getElem? (i := 1161) (by decide +kernel), List.mem_of_getElem? (i := 1641) (by decide +kernel), List.mem_of_getElem? (i := 1642) (by decide +kernel)⟩
theorem lw_p79 : lw_okq (⟨"PrintsGoOnModel", "canSweep", "([II)Z"⟩, 51) := ⟨⟨by decide +kernel, by decide +kernel⟩, List.mem_of_getElem? (i := 1161) (by decide +kernel), List.mem_of_getElem? (i := 1649) (by decide +kernel), List.mem_of_getElem? (i := 1650) (by decide +kernel)⟩
def lw_privs_5 : List (MethodName × Nat) := [(⟨"PrintsGoOnModel", "isCell", "(I)Z"⟩, 51), (⟨"PrintsGoOnModel", "isUnder", "([II)Z"⟩, 51), (⟨"PrintsGoOnModel", "isGoer", "(I)Z"⟩, 51), (⟨"PrintsGoOnModel", "paceOf", "(I)I"⟩, 51), (⟨"PrintsGoOnModel", "remember", "()V"⟩, 51), (⟨"PrintsGoOnModel", "goHour", "([I)I"⟩, 51), (⟨"PrintsGoOnModel", "passes", "([I)I"⟩, 51), (⟨"PrintsGoOnModel", "goesOn", "([III)V"⟩, 51), (⟨"PrintsGoOnModel", "goStep", "([III)V"⟩, 51), (⟨"PrintsGoOnModel", "turnOf", "([III)I"⟩, 51), (⟨"PrintsGoOnModel", "aheadOf", "([III)I"⟩, 51), (⟨"PrintsGoOnModel", "nextCell", "(II)I"⟩, 51), (⟨"PrintsGoOnModel", "worthOf", "(IIIIII)I"⟩, 51), (⟨"PrintsGoOnModel", "canTide", "([II)Z"⟩, 51), (⟨"PrintsGoOnModel", "goingOn", "([II)I"⟩, 51), (⟨"PrintsGoOnModel", "canSweep", "([II)Z"⟩, 51)]
theorem lw_r5 : ∀ q ∈ lw_privs_5, lw_okq q := List.forall_mem_cons.mpr ⟨lw_p64, List.forall_mem_cons.mpr ⟨lw_p65, List.forall_mem_cons.mpr ⟨lw_p66, List.forall_mem_cons.mpr ⟨lw_p67, List.forall_mem_cons.mpr ⟨lw_p68, List.forall_mem_cons.mpr ⟨lw_p69, List.forall_mem_cons.mpr ⟨lw_p70, List.forall_mem_cons.mpr ⟨lw_p71, List.forall_mem_cons.mpr ⟨lw_p72, List.forall_mem_cons.mpr ⟨lw_p73, List.forall_mem_cons.mpr ⟨lw_p74, List.forall_mem_cons.mpr ⟨lw_p75, List.forall_mem_cons.mpr ⟨lw_p76, List.forall_mem_cons.mpr ⟨lw_p77, List.forall_mem_cons.mpr ⟨lw_p78, List.forall_mem_cons.mpr ⟨lw_p79, fun _ h => absurd h List.not_mem_nil⟩⟩⟩⟩⟩⟩⟩⟩⟩⟩⟩⟩⟩⟩⟩⟩
theorem lw_p80 : lw_okq (⟨"PrintsGoOnModel", "sweeps", "([II)I"⟩, 51) := ⟨⟨by decide +kernel, by decide +kernel⟩, List.mem_of_getElem? (i := 1161) (by decide +kernel), List.mem_of_getElem? (i := 1653) (by decide +kernel), List.mem_of_getElem? (i := 1654) (by decide +kernel)⟩
theorem lw_p81 : lw_okq (⟨"PrintsGoOnModel", "canBegin", "([III)Z"⟩, 51) := ⟨⟨by decide +kernel, by decide +kernel⟩, List.mem_of_getElem? (i := 1161) (by decide +kernel), List.mem_of_getElem? (i := 1662) (by decide +kernel), List.mem_of_getElem? (i := 1663) (by decide +kernel)⟩
theorem lw_p82 : lw_okq (⟨"PrintsGoOnModel", "begins0", "([III)V"⟩, 51) := ⟨⟨by decide +kernel, by decide +kernel⟩, List.mem_of_getElem? (i := 1161) (by decide +kernel), List.mem_of_getElem? (i := 1667) (by decide +kernel), List.mem_of_getElem? (i := 1668) (by decide +kernel)⟩
theorem lw_p83 : lw_okq (⟨"PrintsGoOnModel", "draw", "(I)I"⟩, 51) := ⟨⟨by decide +kernel, by decide +kernel⟩, List.mem_of_getElem? (i := 1161) (by decide +kernel), List.mem_of_getElem? (i := 1681) (by decide +kernel), List.mem_of_getElem? (i := 1682) (by decide +kernel)⟩
theorem lw_p84 : lw_okq (⟨"PrintsGoOnModel", "isPlan", "(I)Z"⟩, 51) := ⟨⟨by decide +kernel, by decide +kernel⟩, List.mem_of_getElem? (i := 1161) (by decide +kernel), List.mem_of_getElem? (i := 1699) (by decide +kernel), List.mem_of_getElem? (i := 1700) (by decide +kernel)⟩
theorem lw_p85 : lw_okq (⟨"PrintsGoOnModel", "canStep", "([II)Z"⟩, 51) := ⟨⟨by decide +kernel, by decide +kernel⟩, List.mem_of_getElem? (i := 1161) (by decide +kernel), List.mem_of_getElem? (i := 1711) (by decide +kernel), List.mem_of_getElem? (i := 1712) (by decide +kernel)⟩
theorem lw_p86 : lw_okq (⟨"PrintsGoOnModel", "goPlan", "([II)I"⟩, 51) := ⟨⟨by decide +kernel, by decide +kernel⟩, List.mem_of_getElem? (i := 1161) (by decide +kernel), List.mem_of_getElem? (i := 1715) (by decide +kernel), List.mem_of_getElem? (i := 1716) (by decide +kernel)⟩
theorem lw_p87 : lw_okq (⟨"PrintsGoOnModel", "areTwo", "(II)Z"⟩, 51) := ⟨⟨by decide +kernel, by decide +kernel⟩, List.mem_of_getElem? (i := 1161) (by decide +kernel), List.mem_of_getElem? (i := 1732) (by decide +kernel), List.mem_of_getElem? (i := 1733) (by decide +kernel)⟩
theorem lw_p88 : lw_okq (⟨"PrintsGoOnModel", "meetsWithin", "(III)I"⟩, 51) := ⟨⟨by decide +kernel, by decide +kernel⟩, List.mem_of_getElem? (i := 1161) (by decide +kernel), List.mem_of_getElem? (i := 1736) (by decide +kernel), List.mem_of_getElem? (i := 1737) (by decide +kernel)⟩
theorem lw_p89 : lw_okq (⟨"PrintsGoOnModel", "haveMet", "(II)Z"⟩, 51) := ⟨⟨by decide +kernel, by decide +kernel⟩, List.mem_of_getElem? (i := 1161) (by decide +kernel), List.mem_of_getElem? (i := 1740) (by decide +kernel), List.mem_of_getElem? (i := 1741) (by decide +kernel)⟩
theorem lw_p90 : lw_okq (⟨"PrintsGoOnModel", "goSteps", "(I)V"⟩, 51) := ⟨⟨by decide +kernel, by decide +kernel⟩, List.mem_of_getElem? (i := 1161) (by decide +kernel), List.mem_of_getElem? (i := 1757) (by decide +kernel), List.mem_of_getElem? (i := 1758) (by decide +kernel)⟩
theorem lw_p91 : lw_okq (⟨"PrintsGoOnModel", "isDry", "(I)Z"⟩, 51) := ⟨⟨by decide +kernel, by decide +kernel⟩, List.mem_of_getElem? (i := 1161) (by decide +kernel), List.mem_of_getElem? (i := 1761) (by decide +kernel), List.mem_of_getElem? (i := 1762) (by decide +kernel)⟩
theorem lw_p92 : lw_okq (⟨"PrintsGoOnModel", "stonesOf", "(III)I"⟩, 51) := ⟨⟨by decide +kernel, by decide +kernel⟩, List.mem_of_getElem? (i := 1161) (by decide +kernel), List.mem_of_getElem? (i := 1770) (by decide +kernel), List.mem_of_getElem? (i := 1771) (by decide +kernel)⟩
theorem lw_p93 : lw_okq (⟨"PrintsGoOnModel", "doesKeep", "(IIIII)Z"⟩, 51) := ⟨⟨by decide +kernel, by decide +kernel⟩, List.mem_of_getElem? (i := 1161) (by decide +kernel), List.mem_of_getElem? (i := 1774) (by decide +kernel), List.mem_of_getElem? (i := 1775) (by decide +kernel)⟩
theorem lw_p94 : lw_okq (⟨"PrintsGoOnModel", "canLay", "(I)Z"⟩, 51) := ⟨⟨by decide +kernel, by decide +kernel⟩, List.mem_of_getElem? (i := 1161) (by decide +kernel), List.mem_of_getElem? (i := 1778) (by decide +kernel), List.mem_of_getElem? (i := 1779) (by decide +kernel)⟩
theorem lw_p95 : lw_okq (⟨"PrintsGoOnModel", "laysPaths", "(I)V"⟩, 51) := ⟨⟨by decide +kernel, by decide +kernel⟩, List.mem_of_getElem? (i := 1161) (by decide +kernel), List.mem_of_getElem? (i := 1792) (by decide +kernel), List.mem_of_getElem? (i := 1793) (by decide +kernel)⟩
def lw_privs_6 : List (MethodName × Nat) := [(⟨"PrintsGoOnModel", "sweeps", "([II)I"⟩, 51), (⟨"PrintsGoOnModel", "canBegin", "([III)Z"⟩, 51), (⟨"PrintsGoOnModel", "begins0", "([III)V"⟩, 51), (⟨"PrintsGoOnModel", "draw", "(I)I"⟩, 51), (⟨"PrintsGoOnModel", "isPlan", "(I)Z"⟩, 51), (⟨"PrintsGoOnModel", "canStep", "([II)Z"⟩, 51), (⟨"PrintsGoOnModel", "goPlan", "([II)I"⟩, 51), (⟨"PrintsGoOnModel", "areTwo", "(II)Z"⟩, 51), (⟨"PrintsGoOnModel", "meetsWithin", "(III)I"⟩, 51), (⟨"PrintsGoOnModel", "haveMet", "(II)Z"⟩, 51), (⟨"PrintsGoOnModel", "goSteps", "(I)V"⟩, 51), (⟨"PrintsGoOnModel", "isDry", "(I)Z"⟩, 51), (⟨"PrintsGoOnModel", "stonesOf", "(III)I"⟩, 51), (⟨"PrintsGoOnModel", "doesKeep", "(IIIII)Z"⟩, 51), (⟨"PrintsGoOnModel", "canLay", "(I)Z"⟩, 51), (⟨"PrintsGoOnModel", "laysPaths", "(I)V"⟩, 51)]
theorem lw_r6 : ∀ q ∈ lw_privs_6, lw_okq q := List.forall_mem_cons.mpr ⟨lw_p80, List.forall_mem_cons.mpr ⟨lw_p81, List.forall_mem_cons.mpr ⟨lw_p82, List.forall_mem_cons.mpr ⟨lw_p83, List.forall_mem_cons.mpr ⟨lw_p84, List.forall_mem_cons.mpr ⟨lw_p85, List.forall_mem_cons.mpr ⟨lw_p86, List.forall_mem_cons.mpr ⟨lw_p87, List.forall_mem_cons.mpr ⟨lw_p88, List.forall_mem_cons.mpr ⟨lw_p89, List.forall_mem_cons.mpr ⟨lw_p90, List.forall_mem_cons.mpr ⟨lw_p91, List.forall_mem_cons.mpr ⟨lw_p92, List.forall_mem_cons.mpr ⟨lw_p93, List.forall_mem_cons.mpr ⟨lw_p94, List.forall_mem_cons.mpr ⟨lw_p95, fun _ h => absurd h List.not_mem_nil⟩⟩⟩⟩⟩⟩⟩⟩⟩⟩⟩⟩⟩⟩⟩⟩
theorem lw_p96 : lw_okq (⟨"PrintsGoOnModel", "isFit", "(II)Z"⟩, 51) := ⟨⟨by decide +kernel, by decide +kernel⟩, List.mem_of_getElem? (i := 1161) (by decide +kernel), List.mem_of_getElem? (i := 1796) (by decide +kernel), List.mem_of_getElem? (i := 1797) (by decide +kernel)⟩
theorem lw_p97 : lw_okq (⟨"PrintsGoOnModel", "canPlay", "(II)Z"⟩, 51) := ⟨⟨by decide +kernel, by decide +kernel⟩, List.mem_of_getElem? (i := 1161) (by decide +kernel), List.mem_of_getElem? (i := 1808) (by decide +kernel), List.mem_of_getElem? (i := 1809) (by decide +kernel)⟩
theorem lw_p98 : lw_okq (⟨"PrintsGoOnModel", "gameOf", "(IIIII)I"⟩, 51) := ⟨⟨by decide +kernel, by decide +kernel⟩, List.mem_of_getElem? (i := 1161) (by decide +kernel), List.mem_of_getElem? (i := 1812) (by decide +kernel), List.mem_of_getElem? (i := 1813) (by decide +kernel)⟩
theorem lw_p99 : lw_okq (⟨"PrintsGoOnModel", "oddsFrom", "(IIIII)I"⟩, 51) := ⟨⟨by decide +kernel, by decide +kernel⟩, List.mem_of_getElem? (i := 1161) (by decide +kernel), List.mem_of_getElem? (i := 1827) (by decide +kernel), List.mem_of_getElem? (i := 1828) (by decide +kernel)⟩
theorem lw_p100 : lw_okq (⟨"PrintsGoOnModel", "greatest", "(I)I"⟩, 51) := ⟨⟨by decide +kernel, by decide +kernel⟩, List.mem_of_getElem? (i := 1161) (by decide +kernel), List.mem_of_getElem? (i := 1844) (by decide +kernel), List.mem_of_getElem? (i := 1845) (by decide +kernel)⟩
theorem lw_p101 : lw_okq (⟨"PrintsGoOnModel", "thoseWho", "(I)I"⟩, 51) := ⟨⟨by decide +kernel, by decide +kernel⟩, List.mem_of_getElem? (i := 1161) (by decide +kernel), List.mem_of_getElem? (i := 1848) (by decide +kernel), List.mem_of_getElem? (i := 1849) (by decide +kernel)⟩
theorem lw_p102 : lw_okq (⟨"PrintsGoOnModel", "dry", "(Z)I"⟩, 51) := ⟨⟨by decide +kernel, by decide +kernel⟩, List.mem_of_getElem? (i := 1161) (by decide +kernel), List.mem_of_getElem? (i := 1852) (by decide +kernel), List.mem_of_getElem? (i := 1853) (by decide +kernel)⟩
theorem lw_p103 : lw_okq (⟨"PrintsGoOnModel", "crowd", "()I"⟩, 51) := ⟨⟨by decide +kernel, by decide +kernel⟩, List.mem_of_getElem? (i := 1161) (by decide +kernel), List.mem_of_getElem? (i := 1856) (by decide +kernel), List.mem_of_getElem? (i := 1857) (by decide +kernel)⟩
theorem lw_p104 : lw_okq (⟨"PrintsGoOnModel", "busy", "()I"⟩, 51) := ⟨⟨by decide +kernel, by decide +kernel⟩, List.mem_of_getElem? (i := 1161) (by decide +kernel), List.mem_of_getElem? (i := 1860) (by decide +kernel), List.mem_of_getElem? (i := 1861) (by decide +kernel)⟩
theorem lw_p105 : lw_okq (⟨"PrintsGoOnModel", "faced", "()I"⟩, 51) := ⟨⟨by decide +kernel, by decide +kernel⟩, List.mem_of_getElem? (i := 1161) (by decide +kernel), List.mem_of_getElem? (i := 1864) (by decide +kernel), List.mem_of_getElem? (i := 1865) (by decide +kernel)⟩
theorem lw_p106 : lw_okq (⟨"PrintsGoOnModel", "doesFace", "(II)Z"⟩, 51) := ⟨⟨by decide +kernel, by decide +kernel⟩, List.mem_of_getElem? (i := 1161) (by decide +kernel), List.mem_of_getElem? (i := 1868) (by decide +kernel), List.mem_of_getElem? (i := 1869) (by decide +kernel)⟩
def lw_privs_7 : List (MethodName × Nat) := [(⟨"PrintsGoOnModel", "isFit", "(II)Z"⟩, 51), (⟨"PrintsGoOnModel", "canPlay", "(II)Z"⟩, 51), (⟨"PrintsGoOnModel", "gameOf", "(IIIII)I"⟩, 51), (⟨"PrintsGoOnModel", "oddsFrom", "(IIIII)I"⟩, 51), (⟨"PrintsGoOnModel", "greatest", "(I)I"⟩, 51), (⟨"PrintsGoOnModel", "thoseWho", "(I)I"⟩, 51), (⟨"PrintsGoOnModel", "dry", "(Z)I"⟩, 51), (⟨"PrintsGoOnModel", "crowd", "()I"⟩, 51), (⟨"PrintsGoOnModel", "busy", "()I"⟩, 51), (⟨"PrintsGoOnModel", "faced", "()I"⟩, 51), (⟨"PrintsGoOnModel", "doesFace", "(II)Z"⟩, 51)]
theorem lw_r7 : ∀ q ∈ lw_privs_7, lw_okq q := List.forall_mem_cons.mpr ⟨lw_p96, List.forall_mem_cons.mpr ⟨lw_p97, List.forall_mem_cons.mpr ⟨lw_p98, List.forall_mem_cons.mpr ⟨lw_p99, List.forall_mem_cons.mpr ⟨lw_p100, List.forall_mem_cons.mpr ⟨lw_p101, List.forall_mem_cons.mpr ⟨lw_p102, List.forall_mem_cons.mpr ⟨lw_p103, List.forall_mem_cons.mpr ⟨lw_p104, List.forall_mem_cons.mpr ⟨lw_p105, List.forall_mem_cons.mpr ⟨lw_p106, fun _ h => absurd h List.not_mem_nil⟩⟩⟩⟩⟩⟩⟩⟩⟩⟩⟩
def lw_privs : List (MethodName × Nat) := lw_privs_1 ++ (lw_privs_2 ++ (lw_privs_3 ++ (lw_privs_4 ++ (lw_privs_5 ++ (lw_privs_6 ++ (lw_privs_7))))))
def lw_tbl : List Cond := k2_sels lw_privs ++ tables_1
theorem lw_privs_ok : ∀ q ∈ lw_privs, lw_okq q := by
  show ∀ q ∈ lw_privs_1 ++ (lw_privs_2 ++ (lw_privs_3 ++ (lw_privs_4 ++ (lw_privs_5 ++ (lw_privs_6 ++ (lw_privs_7)))))), lw_okq q
  exact List.forall_mem_append.mpr ⟨lw_r1, List.forall_mem_append.mpr ⟨lw_r2, List.forall_mem_append.mpr ⟨lw_r3, List.forall_mem_append.mpr ⟨lw_r4, List.forall_mem_append.mpr ⟨lw_r5, List.forall_mem_append.mpr ⟨lw_r6, lw_r7⟩⟩⟩⟩⟩⟩
end
section
-- out of claim/NAMES.whole.lean.txt (printed names: a starting text): classes, fields, methods
def RX0 : String := "PrintsGoOn$Evening"
def TX0 : u_T := fun k => match k with
  | 0 => ("PrintsGoOn$Evening", "size", "I", true)
  | _ => ("PrintsGoOn$Evening", "parts", "[I", true)
def tyX0 : Nat → FieldType := fun k => match k with
  | 0 => .int
  | _ => .array .int
theorem nmX0 : ∀ a, a < 2 → ∀ b, b < 2 → a ≠ b → (TX0 a).2.1 ≠ (TX0 b).2.1 := by decide +kernel
theorem tyX0_ok : ∀ k, k < 2 → parseFieldDescriptor (TX0 k).2.2.1 = some (tyX0 k) := by decide +kernel
abbrev cX0_init : ByteArray := prog_2_method_1_code
def yX0_init : MethodName := ⟨RX0, "<init>", "([II)V"⟩
abbrev cX0_part : ByteArray := prog_2_method_2_code
def yX0_part : MethodName := ⟨RX0, "part", "(II)I"⟩
abbrev cX0_isHour : ByteArray := prog_2_method_3_code
def yX0_isHour : MethodName := ⟨RX0, "isHour", "(I)Z"⟩
abbrev cX0_mayBe : ByteArray := prog_2_method_4_code
def yX0_mayBe : MethodName := ⟨RX0, "mayBe", "(ILPrintsGoOn$Scene;)Z"⟩
abbrev cX0_doByHand : ByteArray := prog_2_method_5_code
def yX0_doByHand : MethodName := ⟨RX0, "doByHand", "(ILPrintsGoOn$Scene;)V"⟩
def RX1 : String := "PrintsGoOn$EveningReader"
def TX1 : u_T := fun k => match k with
  | 0 => ("PrintsGoOn$EveningReader", "tape", "LPrintsGoOn$Tape;", true)
  | 1 => ("PrintsGoOn$EveningReader", "parts", "[I", true)
  | _ => ("PrintsGoOn$EveningReader", "size", "I", false)
def tyX1 : Nat → FieldType := fun k => match k with
  | 0 => .object "PrintsGoOn$Tape"
  | 1 => .array .int
  | _ => .int
theorem nmX1 : ∀ a, a < 3 → ∀ b, b < 3 → a ≠ b → (TX1 a).2.1 ≠ (TX1 b).2.1 := by decide +kernel
theorem tyX1_ok : ∀ k, k < 3 → parseFieldDescriptor (TX1 k).2.2.1 = some (tyX1 k) := by decide +kernel
abbrev cX1_init : ByteArray := prog_3_method_1_code
def yX1_init : MethodName := ⟨RX1, "<init>", "(LPrintsGoOn$Tape;)V"⟩
abbrev cX1_made : ByteArray := prog_3_method_2_code
def yX1_made : MethodName := ⟨RX1, "made", "()LPrintsGoOn$Evening;"⟩
abbrev cX1_readEvening : ByteArray := prog_3_method_3_code
def yX1_readEvening : MethodName := ⟨RX1, "readEvening", "()Z"⟩
abbrev cX1_readStep : ByteArray := prog_3_method_4_code
def yX1_readStep : MethodName := ⟨RX1, "readStep", "(I)Z"⟩
abbrev cX1_readDigits : ByteArray := prog_3_method_5_code
def yX1_readDigits : MethodName := ⟨RX1, "readDigits", "(IIZ)Z"⟩
abbrev cX1_putStep : ByteArray := prog_3_method_6_code
def yX1_putStep : MethodName := ⟨RX1, "putStep", "(IIII)Z"⟩
def RX2 : String := "PrintsGoOn$Foresight"
def TX2 : u_T := fun k => match k with
  | 0 => ("PrintsGoOn$Foresight", "firstHas", "I", false)
  | 1 => ("PrintsGoOn$Foresight", "secondHas", "I", false)
  | 2 => ("PrintsGoOn$Foresight", "now", "LPrintsGoOn$Scene;", true)
  | 3 => ("PrintsGoOn$Foresight", "spare", "LPrintsGoOn$Scene;", true)
  | 4 => ("PrintsGoOn$Foresight", "walker", "LPrintsGoOn$Walker;", true)
  | 5 => ("PrintsGoOn$Foresight", "lookedAnyway", "I", false)
  | 6 => ("PrintsGoOn$Foresight", "lookedBy", "[I", true)
  | 7 => ("PrintsGoOn$Foresight", "firstGains", "[I", true)
  | _ => ("PrintsGoOn$Foresight", "secondGains", "[I", true)
def tyX2 : Nat → FieldType := fun k => match k with
  | 0 => .int
  | 1 => .int
  | 2 => .object "PrintsGoOn$Scene"
  | 3 => .object "PrintsGoOn$Scene"
  | 4 => .object "PrintsGoOn$Walker"
  | 5 => .int
  | 6 => .array .int
  | 7 => .array .int
  | _ => .array .int
theorem nmX2 : ∀ a, a < 9 → ∀ b, b < 9 → a ≠ b → (TX2 a).2.1 ≠ (TX2 b).2.1 := by decide +kernel
theorem tyX2_ok : ∀ k, k < 9 → parseFieldDescriptor (TX2 k).2.2.1 = some (tyX2 k) := by decide +kernel
abbrev cX2_init : ByteArray := prog_4_method_1_code
def yX2_init : MethodName := ⟨RX2, "<init>", "(LPrintsGoOn$Scene;LPrintsGoOn$Scene;LPrintsGoOn$Walker;)V"⟩
abbrev cX2_cellBehind : ByteArray := prog_4_method_2_code
def yX2_cellBehind : MethodName := ⟨RX2, "cellBehind", "(II)I"⟩
abbrev cX2_firstMeeting : ByteArray := prog_4_method_3_code
def yX2_firstMeeting : MethodName := ⟨RX2, "firstMeeting", "(II)I"⟩
abbrev cX2_endOf : ByteArray := prog_4_method_4_code
def yX2_endOf : MethodName := ⟨RX2, "endOf", "(II)I"⟩
abbrev cX2_sameAgain : ByteArray := prog_4_method_5_code
def yX2_sameAgain : MethodName := ⟨RX2, "sameAgain", "(I)I"⟩
abbrev cX2_apartAnyway : ByteArray := prog_4_method_6_code
def yX2_apartAnyway : MethodName := ⟨RX2, "apartAnyway", "(III)Z"⟩
abbrev cX2_oneStone : ByteArray := prog_4_method_7_code
def yX2_oneStone : MethodName := ⟨RX2, "oneStone", "(III)I"⟩
abbrev cX2_twoStones : ByteArray := prog_4_method_8_code
def yX2_twoStones : MethodName := ⟨RX2, "twoStones", "(III)I"⟩
abbrev cX2_isFree : ByteArray := prog_4_method_9_code
def yX2_isFree : MethodName := ⟨RX2, "isFree", "(I)Z"⟩
abbrev cX2_keepsApart : ByteArray := prog_4_method_10_code
def yX2_keepsApart : MethodName := ⟨RX2, "keepsApart", "(IIIII)Z"⟩
abbrev cX2_layRock : ByteArray := prog_4_method_11_code
def yX2_layRock : MethodName := ⟨RX2, "layRock", "(I)V"⟩
abbrev cX2_play : ByteArray := prog_4_method_12_code
def yX2_play : MethodName := ⟨RX2, "play", "(IIII)V"⟩
abbrev cX2_restsOf : ByteArray := prog_4_method_13_code
def yX2_restsOf : MethodName := ⟨RX2, "restsOf", "(II)I"⟩
abbrev cX2_isRest : ByteArray := prog_4_method_14_code
def yX2_isRest : MethodName := ⟨RX2, "isRest", "(II)Z"⟩
abbrev cX2_rest : ByteArray := prog_4_method_15_code
def yX2_rest : MethodName := ⟨RX2, "rest", "(II)I"⟩
abbrev cX2_partsOn : ByteArray := prog_4_method_16_code
def yX2_partsOn : MethodName := ⟨RX2, "partsOn", "(IIII)I"⟩
abbrev cX2_partsOf : ByteArray := prog_4_method_17_code
def yX2_partsOf : MethodName := ⟨RX2, "partsOf", "(IIII)I"⟩
abbrev cX2_nthBit : ByteArray := prog_4_method_18_code
def yX2_nthBit : MethodName := ⟨RX2, "nthBit", "(II)I"⟩
def RX3 : String := "PrintsGoOn$Law"
def TX3 : u_T := fun k => match k with
  | _ => ("PrintsGoOn$Law", "code", "[I", true)
def tyX3 : Nat → FieldType := fun k => match k with
  | _ => .array .int
theorem nmX3 : ∀ a, a < 1 → ∀ b, b < 1 → a ≠ b → (TX3 a).2.1 ≠ (TX3 b).2.1 := by decide +kernel
theorem tyX3_ok : ∀ k, k < 1 → parseFieldDescriptor (TX3 k).2.2.1 = some (tyX3 k) := by decide +kernel
abbrev cX3_init : ByteArray := prog_5_method_1_code
def yX3_init : MethodName := ⟨RX3, "<init>", "([I)V"⟩
abbrev cX3_letterOf : ByteArray := prog_5_method_2_code
def yX3_letterOf : MethodName := ⟨RX3, "letterOf", "(I)I"⟩
abbrev cX3_worth : ByteArray := prog_5_method_3_code
def yX3_worth : MethodName := ⟨RX3, "worth", "([I[I)I"⟩
abbrev cX3_joined : ByteArray := prog_5_method_4_code
def yX3_joined : MethodName := ⟨RX3, "joined", "(III)I"⟩
def RX4 : String := "PrintsGoOn$LawReader"
def TX4 : u_T := fun k => match k with
  | 0 => ("PrintsGoOn$LawReader", "tape", "LPrintsGoOn$Tape;", true)
  | 1 => ("PrintsGoOn$LawReader", "code", "[I", true)
  | _ => ("PrintsGoOn$LawReader", "size", "I", false)
def tyX4 : Nat → FieldType := fun k => match k with
  | 0 => .object "PrintsGoOn$Tape"
  | 1 => .array .int
  | _ => .int
theorem nmX4 : ∀ a, a < 3 → ∀ b, b < 3 → a ≠ b → (TX4 a).2.1 ≠ (TX4 b).2.1 := by decide +kernel
theorem tyX4_ok : ∀ k, k < 3 → parseFieldDescriptor (TX4 k).2.2.1 = some (tyX4 k) := by decide +kernel
abbrev cX4_init : ByteArray := prog_6_method_1_code
def yX4_init : MethodName := ⟨RX4, "<init>", "(LPrintsGoOn$Tape;)V"⟩
abbrev cX4_made : ByteArray := prog_6_method_2_code
def yX4_made : MethodName := ⟨RX4, "made", "()LPrintsGoOn$Law;"⟩
abbrev cX4_readLaw : ByteArray := prog_6_method_3_code
def yX4_readLaw : MethodName := ⟨RX4, "readLaw", "()Z"⟩
abbrev cX4_put : ByteArray := prog_6_method_4_code
def yX4_put : MethodName := ⟨RX4, "put", "(I)V"⟩
abbrev cX4_readClause : ByteArray := prog_6_method_5_code
def yX4_readClause : MethodName := ⟨RX4, "readClause", "()Z"⟩
abbrev cX4_readCondition : ByteArray := prog_6_method_6_code
def yX4_readCondition : MethodName := ⟨RX4, "readCondition", "(IZ)Z"⟩
abbrev cX4_readUnit : ByteArray := prog_6_method_7_code
def yX4_readUnit : MethodName := ⟨RX4, "readUnit", "(I)Z"⟩
abbrev cX4_readCompared : ByteArray := prog_6_method_8_code
def yX4_readCompared : MethodName := ⟨RX4, "readCompared", "(I)Z"⟩
abbrev cX4_comparing : ByteArray := prog_6_method_9_code
def yX4_comparing : MethodName := ⟨RX4, "comparing", "(I)I"⟩
abbrev cX4_readSum : ByteArray := prog_6_method_10_code
def yX4_readSum : MethodName := ⟨RX4, "readSum", "(I)Z"⟩
abbrev cX4_joining : ByteArray := prog_6_method_11_code
def yX4_joining : MethodName := ⟨RX4, "joining", "(I)I"⟩
abbrev cX4_readAtom : ByteArray := prog_6_method_12_code
def yX4_readAtom : MethodName := ⟨RX4, "readAtom", "(I)Z"⟩
def RX5 : String := "PrintsGoOn$Past"
def TX5 : u_T := fun k => match k with
  | 0 => ("PrintsGoOn$Past", "acts", "I", false)
  | 1 => ("PrintsGoOn$Past", "kept", "[I", true)
  | 2 => ("PrintsGoOn$Past", "notes", "[I", true)
  | 3 => ("PrintsGoOn$Past", "imageKept", "[I", true)
  | 4 => ("PrintsGoOn$Past", "imageNotes", "[I", true)
  | 5 => ("PrintsGoOn$Past", "hasImage", "Z", false)
  | _ => ("PrintsGoOn$Past", "slot", "I", false)
def tyX5 : Nat → FieldType := fun k => match k with
  | 0 => .int
  | 1 => .array .int
  | 2 => .array .int
  | 3 => .array .int
  | 4 => .array .int
  | 5 => .boolean
  | _ => .int
theorem nmX5 : ∀ a, a < 7 → ∀ b, b < 7 → a ≠ b → (TX5 a).2.1 ≠ (TX5 b).2.1 := by decide +kernel
theorem tyX5_ok : ∀ k, k < 7 → parseFieldDescriptor (TX5 k).2.2.1 = some (tyX5 k) := by decide +kernel
abbrev cX5_init : ByteArray := prog_7_method_1_code
def yX5_init : MethodName := ⟨RX5, "<init>", "()V"⟩
abbrev cX5_forget : ByteArray := prog_7_method_2_code
def yX5_forget : MethodName := ⟨RX5, "forget", "()V"⟩
abbrev cX5_keep : ByteArray := prog_7_method_3_code
def yX5_keep : MethodName := ⟨RX5, "keep", "(LPrintsGoOn$Scene;)V"⟩
abbrev cX5_takeBack : ByteArray := prog_7_method_4_code
def yX5_takeBack : MethodName := ⟨RX5, "takeBack", "(LPrintsGoOn$Scene;)Z"⟩
abbrev cX5_logLength : ByteArray := prog_7_method_5_code
def yX5_logLength : MethodName := ⟨RX5, "logLength", "(LPrintsGoOn$Scene;)I"⟩
abbrev cX5_note : ByteArray := prog_7_method_6_code
def yX5_note : MethodName := ⟨RX5, "note", "(IIII)V"⟩
abbrev cX5_noted : ByteArray := prog_7_method_7_code
def yX5_noted : MethodName := ⟨RX5, "noted", "(II)I"⟩
abbrev cX5_keepImage : ByteArray := prog_7_method_8_code
def yX5_keepImage : MethodName := ⟨RX5, "keepImage", "(LPrintsGoOn$Scene;)V"⟩
abbrev cX5_bringBack : ByteArray := prog_7_method_9_code
def yX5_bringBack : MethodName := ⟨RX5, "bringBack", "(LPrintsGoOn$Scene;)Z"⟩
def RX6 : String := "PrintsGoOn$Scene"
def TX6 : u_T := fun k => match k with
  | _ => ("PrintsGoOn$Scene", "v", "[I", true)
def tyX6 : Nat → FieldType := fun k => match k with
  | _ => .array .int
theorem nmX6 : ∀ a, a < 1 → ∀ b, b < 1 → a ≠ b → (TX6 a).2.1 ≠ (TX6 b).2.1 := by decide +kernel
theorem tyX6_ok : ∀ k, k < 1 → parseFieldDescriptor (TX6 k).2.2.1 = some (tyX6 k) := by decide +kernel
abbrev cX6_init : ByteArray := prog_8_method_1_code
def yX6_init : MethodName := ⟨RX6, "<init>", "()V"⟩
abbrev cX6_isLook : ByteArray := prog_8_method_2_code
def yX6_isLook : MethodName := ⟨RX6, "isLook", "(I)Z"⟩
abbrev cX6_copy : ByteArray := prog_8_method_3_code
def yX6_copy : MethodName := ⟨RX6, "copy", "(LPrintsGoOn$Scene;)V"⟩
abbrev cX6_hasShore : ByteArray := prog_8_method_4_code
def yX6_hasShore : MethodName := ⟨RX6, "hasShore", "()Z"⟩
abbrev cX6_cells : ByteArray := prog_8_method_5_code
def yX6_cells : MethodName := ⟨RX6, "cells", "()I"⟩
abbrev cX6_hasCell : ByteArray := prog_8_method_6_code
def yX6_hasCell : MethodName := ⟨RX6, "hasCell", "(I)Z"⟩
abbrev cX6_hasGoer : ByteArray := prog_8_method_7_code
def yX6_hasGoer : MethodName := ⟨RX6, "hasGoer", "(I)Z"⟩
abbrev cX6_hasPair : ByteArray := prog_8_method_8_code
def yX6_hasPair : MethodName := ⟨RX6, "hasPair", "(II)Z"⟩
abbrev cX6_hasGoingPair : ByteArray := prog_8_method_9_code
def yX6_hasGoingPair : MethodName := ⟨RX6, "hasGoingPair", "(II)Z"⟩
abbrev cX6_goes : ByteArray := prog_8_method_10_code
def yX6_goes : MethodName := ⟨RX6, "goes", "(I)Z"⟩
abbrev cX6_goesOn : ByteArray := prog_8_method_11_code
def yX6_goesOn : MethodName := ⟨RX6, "goesOn", "(II)Z"⟩
abbrev cX6_together : ByteArray := prog_8_method_12_code
def yX6_together : MethodName := ⟨RX6, "together", "(II)Z"⟩
abbrev cX6_kind : ByteArray := prog_8_method_13_code
def yX6_kind : MethodName := ⟨RX6, "kind", "(I)I"⟩
abbrev cX6_under : ByteArray := prog_8_method_14_code
def yX6_under : MethodName := ⟨RX6, "under", "(I)Z"⟩
abbrev cX6_beside : ByteArray := prog_8_method_15_code
def yX6_beside : MethodName := ⟨RX6, "beside", "(II)I"⟩
abbrev cX6_lies : ByteArray := prog_8_method_16_code
def yX6_lies : MethodName := ⟨RX6, "lies", "(I)I"⟩
abbrev cX6_goingOn : ByteArray := prog_8_method_17_code
def yX6_goingOn : MethodName := ⟨RX6, "goingOn", "(I)I"⟩
abbrev cX6_mayPassHour : ByteArray := prog_8_method_18_code
def yX6_mayPassHour : MethodName := ⟨RX6, "mayPassHour", "()Z"⟩
abbrev cX6_mayTurnTide : ByteArray := prog_8_method_19_code
def yX6_mayTurnTide : MethodName := ⟨RX6, "mayTurnTide", "(I)Z"⟩
abbrev cX6_mayTurnStone : ByteArray := prog_8_method_20_code
def yX6_mayTurnStone : MethodName := ⟨RX6, "mayTurnStone", "(I)Z"⟩
abbrev cX6_turnStone : ByteArray := prog_8_method_21_code
def yX6_turnStone : MethodName := ⟨RX6, "turnStone", "(I)V"⟩
abbrev cX6_maySweep : ByteArray := prog_8_method_22_code
def yX6_maySweep : MethodName := ⟨RX6, "maySweep", "(I)Z"⟩
abbrev cX6_sweepOff : ByteArray := prog_8_method_23_code
def yX6_sweepOff : MethodName := ⟨RX6, "sweepOff", "(I)I"⟩
abbrev cX6_mayBegin : ByteArray := prog_8_method_24_code
def yX6_mayBegin : MethodName := ⟨RX6, "mayBegin", "(II)Z"⟩
abbrev cX6_payAndBegin : ByteArray := prog_8_method_25_code
def yX6_payAndBegin : MethodName := ⟨RX6, "payAndBegin", "(II)V"⟩
abbrev cX6_begin : ByteArray := prog_8_method_26_code
def yX6_begin : MethodName := ⟨RX6, "begin", "(II)V"⟩
abbrev cX6_mayBeGiven : ByteArray := prog_8_method_27_code
def yX6_mayBeGiven : MethodName := ⟨RX6, "mayBeGiven", "(I)Z"⟩
abbrev cX6_wentInAll : ByteArray := prog_8_method_28_code
def yX6_wentInAll : MethodName := ⟨RX6, "wentInAll", "()I"⟩
abbrev cX6_goerWithMost : ByteArray := prog_8_method_29_code
def yX6_goerWithMost : MethodName := ⟨RX6, "goerWithMost", "(I)I"⟩
abbrev cX6_goersWith : ByteArray := prog_8_method_30_code
def yX6_goersWith : MethodName := ⟨RX6, "goersWith", "(I)I"⟩
abbrev cX6_busyCells : ByteArray := prog_8_method_31_code
def yX6_busyCells : MethodName := ⟨RX6, "busyCells", "()I"⟩
abbrev cX6_crowd : ByteArray := prog_8_method_32_code
def yX6_crowd : MethodName := ⟨RX6, "crowd", "()I"⟩
abbrev cX6_faced : ByteArray := prog_8_method_33_code
def yX6_faced : MethodName := ⟨RX6, "faced", "()I"⟩
abbrev cX6_looksAt : ByteArray := prog_8_method_34_code
def yX6_looksAt : MethodName := ⟨RX6, "looksAt", "(II)Z"⟩
abbrev cX6_dryCells : ByteArray := prog_8_method_35_code
def yX6_dryCells : MethodName := ⟨RX6, "dryCells", "()I"⟩
abbrev cX6_dryParts : ByteArray := prog_8_method_36_code
def yX6_dryParts : MethodName := ⟨RX6, "dryParts", "()I"⟩
abbrev cX6_reached : ByteArray := prog_8_method_37_code
def yX6_reached : MethodName := ⟨RX6, "reached", "(II)I"⟩
abbrev cX6_fewestSteps : ByteArray := prog_8_method_38_code
def yX6_fewestSteps : MethodName := ⟨RX6, "fewestSteps", "(II)I"⟩
abbrev cX6_widened : ByteArray := prog_8_method_39_code
def yX6_widened : MethodName := ⟨RX6, "widened", "(II)I"⟩
def RX7 : String := "PrintsGoOn$ShoreReader"
def TX7 : u_T := fun k => match k with
  | 0 => ("PrintsGoOn$ShoreReader", "tape", "LPrintsGoOn$Tape;", true)
  | 1 => ("PrintsGoOn$ShoreReader", "rules", "[I", true)
  | 2 => ("PrintsGoOn$ShoreReader", "goers", "[I", true)
  | 3 => ("PrintsGoOn$ShoreReader", "kinds", "[I", true)
  | 4 => ("PrintsGoOn$ShoreReader", "lengths", "[I", true)
  | 5 => ("PrintsGoOn$ShoreReader", "hasRules", "Z", false)
  | 6 => ("PrintsGoOn$ShoreReader", "rowCount", "I", false)
  | _ => ("PrintsGoOn$ShoreReader", "goerCount", "I", false)
def tyX7 : Nat → FieldType := fun k => match k with
  | 0 => .object "PrintsGoOn$Tape"
  | 1 => .array .int
  | 2 => .array .int
  | 3 => .array .int
  | 4 => .array .int
  | 5 => .boolean
  | 6 => .int
  | _ => .int
theorem nmX7 : ∀ a, a < 8 → ∀ b, b < 8 → a ≠ b → (TX7 a).2.1 ≠ (TX7 b).2.1 := by decide +kernel
theorem tyX7_ok : ∀ k, k < 8 → parseFieldDescriptor (TX7 k).2.2.1 = some (tyX7 k) := by decide +kernel
abbrev cX7_init : ByteArray := prog_9_method_1_code
def yX7_init : MethodName := ⟨RX7, "<init>", "(LPrintsGoOn$Tape;)V"⟩
abbrev cX7_readShore : ByteArray := prog_9_method_2_code
def yX7_readShore : MethodName := ⟨RX7, "readShore", "()Z"⟩
abbrev cX7_clear : ByteArray := prog_9_method_3_code
def yX7_clear : MethodName := ⟨RX7, "clear", "()V"⟩
abbrev cX7_readClause : ByteArray := prog_9_method_4_code
def yX7_readClause : MethodName := ⟨RX7, "readClause", "()Z"⟩
abbrev cX7_readItems : ByteArray := prog_9_method_5_code
def yX7_readItems : MethodName := ⟨RX7, "readItems", "([I[II)Z"⟩
abbrev cX7_endsClause : ByteArray := prog_9_method_6_code
def yX7_endsClause : MethodName := ⟨RX7, "endsClause", "()Z"⟩
abbrev cX7_itemOf : ByteArray := prog_9_method_7_code
def yX7_itemOf : MethodName := ⟨RX7, "itemOf", "([II)I"⟩
abbrev cX7_readRow : ByteArray := prog_9_method_8_code
def yX7_readRow : MethodName := ⟨RX7, "readRow", "(I)Z"⟩
abbrev cX7_agrees : ByteArray := prog_9_method_9_code
def yX7_agrees : MethodName := ⟨RX7, "agrees", "()Z"⟩
abbrev cX7_tell : ByteArray := prog_9_method_10_code
def yX7_tell : MethodName := ⟨RX7, "tell", "(LPrintsGoOn$Scene;)V"⟩
def RX8 : String := "PrintsGoOn$Sightings"
def TX8 : u_T := fun k => match k with
  | 0 => ("PrintsGoOn$Sightings", "size", "I", false)
  | 1 => ("PrintsGoOn$Sightings", "told", "LPrintsGoOn$Scene;", true)
  | 2 => ("PrintsGoOn$Sightings", "spare", "LPrintsGoOn$Scene;", true)
  | 3 => ("PrintsGoOn$Sightings", "walker", "LPrintsGoOn$Walker;", true)
  | 4 => ("PrintsGoOn$Sightings", "goers", "[I", true)
  | 5 => ("PrintsGoOn$Sightings", "hours", "[I", true)
  | 6 => ("PrintsGoOn$Sightings", "cells", "[I", true)
  | 7 => ("PrintsGoOn$Sightings", "traces", "[I", true)
  | _ => ("PrintsGoOn$Sightings", "tellers", "[I", true)
def tyX8 : Nat → FieldType := fun k => match k with
  | 0 => .int
  | 1 => .object "PrintsGoOn$Scene"
  | 2 => .object "PrintsGoOn$Scene"
  | 3 => .object "PrintsGoOn$Walker"
  | 4 => .array .int
  | 5 => .array .int
  | 6 => .array .int
  | 7 => .array .int
  | _ => .array .int
theorem nmX8 : ∀ a, a < 9 → ∀ b, b < 9 → a ≠ b → (TX8 a).2.1 ≠ (TX8 b).2.1 := by decide +kernel
theorem tyX8_ok : ∀ k, k < 9 → parseFieldDescriptor (TX8 k).2.2.1 = some (tyX8 k) := by decide +kernel
abbrev cX8_init : ByteArray := prog_10_method_1_code
def yX8_init : MethodName := ⟨RX8, "<init>", "(LPrintsGoOn$Scene;LPrintsGoOn$Scene;LPrintsGoOn$Walker;)V"⟩
abbrev cX8_forget : ByteArray := prog_10_method_2_code
def yX8_forget : MethodName := ⟨RX8, "forget", "()V"⟩
abbrev cX8_add : ByteArray := prog_10_method_3_code
def yX8_add : MethodName := ⟨RX8, "add", "(III)Z"⟩
abbrev cX8_fitting : ByteArray := prog_10_method_4_code
def yX8_fitting : MethodName := ⟨RX8, "fitting", "(I)I"⟩
abbrev cX8_trace : ByteArray := prog_10_method_5_code
def yX8_trace : MethodName := ⟨RX8, "trace", "(II)V"⟩
abbrev cX8_agrees : ByteArray := prog_10_method_6_code
def yX8_agrees : MethodName := ⟨RX8, "agrees", "(II)Z"⟩
abbrev cX8_fit : ByteArray := prog_10_method_7_code
def yX8_fit : MethodName := ⟨RX8, "fit", "(II)I"⟩
abbrev cX8_bestHour : ByteArray := prog_10_method_8_code
def yX8_bestHour : MethodName := ⟨RX8, "bestHour", "(I)I"⟩
abbrev cX8_mostAlike : ByteArray := prog_10_method_9_code
def yX8_mostAlike : MethodName := ⟨RX8, "mostAlike", "(II)I"⟩
def RX9 : String := "PrintsGoOn$Tape"
def TX9 : u_T := fun k => match k with
  | 0 => ("PrintsGoOn$Tape", "bytes", "[I", true)
  | 1 => ("PrintsGoOn$Tape", "length", "I", false)
  | 2 => ("PrintsGoOn$Tape", "at", "I", false)
  | 3 => ("PrintsGoOn$Tape", "fault", "I", false)
  | _ => ("PrintsGoOn$Tape", "number", "I", false)
def tyX9 : Nat → FieldType := fun k => match k with
  | 0 => .array .int
  | 1 => .int
  | 2 => .int
  | 3 => .int
  | _ => .int
theorem nmX9 : ∀ a, a < 5 → ∀ b, b < 5 → a ≠ b → (TX9 a).2.1 ≠ (TX9 b).2.1 := by decide +kernel
theorem tyX9_ok : ∀ k, k < 5 → parseFieldDescriptor (TX9 k).2.2.1 = some (tyX9 k) := by decide +kernel
abbrev cX9_init : ByteArray := prog_11_method_1_code
def yX9_init : MethodName := ⟨RX9, "<init>", "()V"⟩
abbrev cX9_filled : ByteArray := prog_11_method_2_code
def yX9_filled : MethodName := ⟨RX9, "filled", "(I)I"⟩
abbrev cX9_add : ByteArray := prog_11_method_3_code
def yX9_add : MethodName := ⟨RX9, "add", "(I)V"⟩
abbrev cX9_rewind : ByteArray := prog_11_method_4_code
def yX9_rewind : MethodName := ⟨RX9, "rewind", "()V"⟩
abbrev cX9_next : ByteArray := prog_11_method_5_code
def yX9_next : MethodName := ⟨RX9, "next", "()I"⟩
abbrev cX9_accept : ByteArray := prog_11_method_6_code
def yX9_accept : MethodName := ⟨RX9, "accept", "(I)Z"⟩
abbrev cX9_expect : ByteArray := prog_11_method_7_code
def yX9_expect : MethodName := ⟨RX9, "expect", "(I)Z"⟩
abbrev cX9_refuse : ByteArray := prog_11_method_8_code
def yX9_refuse : MethodName := ⟨RX9, "refuse", "(I)Z"⟩
abbrev cX9_digitHere : ByteArray := prog_11_method_9_code
def yX9_digitHere : MethodName := ⟨RX9, "digitHere", "()I"⟩
abbrev cX9_nextDigit : ByteArray := prog_11_method_10_code
def yX9_nextDigit : MethodName := ⟨RX9, "nextDigit", "()I"⟩
abbrev cX9_readDigit : ByteArray := prog_11_method_11_code
def yX9_readDigit : MethodName := ⟨RX9, "readDigit", "()Z"⟩
abbrev cX9_readNumber : ByteArray := prog_11_method_12_code
def yX9_readNumber : MethodName := ⟨RX9, "readNumber", "(I)Z"⟩
def RX10 : String := "PrintsGoOn$Walker"
def TX10 : u_T := fun k => match k with
  | 0 => ("PrintsGoOn$Walker", "law", "LPrintsGoOn$Law;", false)
  | 1 => ("PrintsGoOn$Walker", "ended", "I", false)
  | 2 => ("PrintsGoOn$Walker", "looked", "I", false)
  | 3 => ("PrintsGoOn$Walker", "letters", "[I", true)
  | _ => ("PrintsGoOn$Walker", "stack", "[I", true)
def tyX10 : Nat → FieldType := fun k => match k with
  | 0 => .object "PrintsGoOn$Law"
  | 1 => .int
  | 2 => .int
  | 3 => .array .int
  | _ => .array .int
theorem nmX10 : ∀ a, a < 5 → ∀ b, b < 5 → a ≠ b → (TX10 a).2.1 ≠ (TX10 b).2.1 := by decide +kernel
theorem tyX10_ok : ∀ k, k < 5 → parseFieldDescriptor (TX10 k).2.2.1 = some (tyX10 k) := by decide +kernel
abbrev cX10_init : ByteArray := prog_12_method_1_code
def yX10_init : MethodName := ⟨RX10, "<init>", "()V"⟩
abbrev cX10_passHour : ByteArray := prog_12_method_2_code
def yX10_passHour : MethodName := ⟨RX10, "passHour", "(LPrintsGoOn$Scene;)I"⟩
abbrev cX10_turnThoseMet : ByteArray := prog_12_method_3_code
def yX10_turnThoseMet : MethodName := ⟨RX10, "turnThoseMet", "(LPrintsGoOn$Scene;)I"⟩
abbrev cX10_takeStep : ByteArray := prog_12_method_4_code
def yX10_takeStep : MethodName := ⟨RX10, "takeStep", "(LPrintsGoOn$Scene;I)V"⟩
abbrev cX10_lawfulLook : ByteArray := prog_12_method_5_code
def yX10_lawfulLook : MethodName := ⟨RX10, "lawfulLook", "(LPrintsGoOn$Scene;III)I"⟩
abbrev cX10_liesAhead : ByteArray := prog_12_method_6_code
def yX10_liesAhead : MethodName := ⟨RX10, "liesAhead", "(LPrintsGoOn$Scene;II)I"⟩
def RX11 : String := "PrintsGoOn"
def TX11 : u_T := fun k => match k with
  | 0 => ("PrintsGoOn", "tape", "LPrintsGoOn$Tape;", true)
  | 1 => ("PrintsGoOn", "shoreReader", "LPrintsGoOn$ShoreReader;", true)
  | 2 => ("PrintsGoOn", "lawReader", "LPrintsGoOn$LawReader;", true)
  | 3 => ("PrintsGoOn", "eveningReader", "LPrintsGoOn$EveningReader;", true)
  | 4 => ("PrintsGoOn", "laws", "[LPrintsGoOn$Law;", true)
  | 5 => ("PrintsGoOn", "evenings", "[LPrintsGoOn$Evening;", true)
  | 6 => ("PrintsGoOn", "told", "LPrintsGoOn$Scene;", true)
  | 7 => ("PrintsGoOn", "now", "LPrintsGoOn$Scene;", true)
  | 8 => ("PrintsGoOn", "spare", "LPrintsGoOn$Scene;", true)
  | 9 => ("PrintsGoOn", "walker", "LPrintsGoOn$Walker;", true)
  | 10 => ("PrintsGoOn", "past", "LPrintsGoOn$Past;", true)
  | 11 => ("PrintsGoOn", "foresight", "LPrintsGoOn$Foresight;", true)
  | 12 => ("PrintsGoOn", "sightings", "LPrintsGoOn$Sightings;", true)
  | 13 => ("PrintsGoOn", "lawCount", "I", false)
  | 14 => ("PrintsGoOn", "eveningCount", "I", false)
  | 15 => ("PrintsGoOn", "holding", "I", false)
  | 16 => ("PrintsGoOn", "childrenBelow", "I", false)
  | _ => ("PrintsGoOn", "drawn", "J", false)
def tyX11 : Nat → FieldType := fun k => match k with
  | 0 => .object "PrintsGoOn$Tape"
  | 1 => .object "PrintsGoOn$ShoreReader"
  | 2 => .object "PrintsGoOn$LawReader"
  | 3 => .object "PrintsGoOn$EveningReader"
  | 4 => .array (.object "PrintsGoOn$Law")
  | 5 => .array (.object "PrintsGoOn$Evening")
  | 6 => .object "PrintsGoOn$Scene"
  | 7 => .object "PrintsGoOn$Scene"
  | 8 => .object "PrintsGoOn$Scene"
  | 9 => .object "PrintsGoOn$Walker"
  | 10 => .object "PrintsGoOn$Past"
  | 11 => .object "PrintsGoOn$Foresight"
  | 12 => .object "PrintsGoOn$Sightings"
  | 13 => .int
  | 14 => .int
  | 15 => .int
  | 16 => .int
  | _ => .long
theorem nmX11 : ∀ a, a < 18 → ∀ b, b < 18 → a ≠ b → (TX11 a).2.1 ≠ (TX11 b).2.1 := by decide +kernel
theorem tyX11_ok : ∀ k, k < 18 → parseFieldDescriptor (TX11 k).2.2.1 = some (tyX11 k) := by decide +kernel
abbrev cX11_init : ByteArray := prog_1_method_1_code
def yX11_init : MethodName := ⟨RX11, "<init>", "()V"⟩
abbrev cX11_feed : ByteArray := prog_1_method_2_code
def yX11_feed : MethodName := ⟨RX11, "feed", "(IIIII)I"⟩
abbrev cX11_end : ByteArray := prog_1_method_3_code
def yX11_end : MethodName := ⟨RX11, "end", "(I)Z"⟩
abbrev cX11_fault : ByteArray := prog_1_method_4_code
def yX11_fault : MethodName := ⟨RX11, "fault", "(I)I"⟩
abbrev cX11_text : ByteArray := prog_1_method_5_code
def yX11_text : MethodName := ⟨RX11, "text", "(I)I"⟩
abbrev cX11_takeShore : ByteArray := prog_1_method_6_code
def yX11_takeShore : MethodName := ⟨RX11, "takeShore", "()I"⟩
abbrev cX11_shore : ByteArray := prog_1_method_7_code
def yX11_shore : MethodName := ⟨RX11, "shore", "(II)I"⟩
abbrev cX11_goer : ByteArray := prog_1_method_8_code
def yX11_goer : MethodName := ⟨RX11, "goer", "(II)I"⟩
abbrev cX11_law : ByteArray := prog_1_method_9_code
def yX11_law : MethodName := ⟨RX11, "law", "(I)Z"⟩
abbrev cX11_children : ByteArray := prog_1_method_10_code
def yX11_children : MethodName := ⟨RX11, "children", "(I)Z"⟩
abbrev cX11_hour : ByteArray := prog_1_method_11_code
def yX11_hour : MethodName := ⟨RX11, "hour", "()I"⟩
abbrev cX11_passNow : ByteArray := prog_1_method_12_code
def yX11_passNow : MethodName := ⟨RX11, "passNow", "()I"⟩
abbrev cX11_tide : ByteArray := prog_1_method_13_code
def yX11_tide : MethodName := ⟨RX11, "tide", "(I)I"⟩
abbrev cX11_stone : ByteArray := prog_1_method_14_code
def yX11_stone : MethodName := ⟨RX11, "stone", "(I)I"⟩
abbrev cX11_sweep : ByteArray := prog_1_method_15_code
def yX11_sweep : MethodName := ⟨RX11, "sweep", "(I)I"⟩
abbrev cX11_anew : ByteArray := prog_1_method_16_code
def yX11_anew : MethodName := ⟨RX11, "anew", "(II)I"⟩
abbrev cX11_give : ByteArray := prog_1_method_17_code
def yX11_give : MethodName := ⟨RX11, "give", "(I)I"⟩
abbrev cX11_years : ByteArray := prog_1_method_18_code
def yX11_years : MethodName := ⟨RX11, "years", "(IJ)I"⟩
abbrev cX11_draw : ByteArray := prog_1_method_19_code
def yX11_draw : MethodName := ⟨RX11, "draw", "(I)I"⟩
abbrev cX11_undo : ByteArray := prog_1_method_20_code
def yX11_undo : MethodName := ⟨RX11, "undo", "()I"⟩
abbrev cX11_log : ByteArray := prog_1_method_21_code
def yX11_log : MethodName := ⟨RX11, "log", "(II)I"⟩
abbrev cX11_step : ByteArray := prog_1_method_22_code
def yX11_step : MethodName := ⟨RX11, "step", "(III)I"⟩
abbrev cX11_eveningOf : ByteArray := prog_1_method_23_code
def yX11_eveningOf : MethodName := ⟨RX11, "eveningOf", "(I)LPrintsGoOn$Evening;"⟩
abbrev cX11_run : ByteArray := prog_1_method_24_code
def yX11_run : MethodName := ⟨RX11, "run", "(II)I"⟩
abbrev cX11_perform : ByteArray := prog_1_method_25_code
def yX11_perform : MethodName := ⟨RX11, "perform", "(I)I"⟩
abbrev cX11_where : ByteArray := prog_1_method_26_code
def yX11_where : MethodName := ⟨RX11, "where", "(II)I"⟩
abbrev cX11_meet : ByteArray := prog_1_method_27_code
def yX11_meet : MethodName := ⟨RX11, "meet", "(II)I"⟩
abbrev cX11_ends : ByteArray := prog_1_method_28_code
def yX11_ends : MethodName := ⟨RX11, "ends", "(II)I"⟩
abbrev cX11_again : ByteArray := prog_1_method_29_code
def yX11_again : MethodName := ⟨RX11, "again", "(I)I"⟩
abbrev cX11_way : ByteArray := prog_1_method_30_code
def yX11_way : MethodName := ⟨RX11, "way", "(II)I"⟩
abbrev cX11_stones : ByteArray := prog_1_method_31_code
def yX11_stones : MethodName := ⟨RX11, "stones", "(IIII)I"⟩
abbrev cX11_seen : ByteArray := prog_1_method_32_code
def yX11_seen : MethodName := ⟨RX11, "seen", "(III)I"⟩
abbrev cX11_fits : ByteArray := prog_1_method_33_code
def yX11_fits : MethodName := ⟨RX11, "fits", "(II)I"⟩
abbrev cX11_ask : ByteArray := prog_1_method_34_code
def yX11_ask : MethodName := ⟨RX11, "ask", "(I)I"⟩
abbrev cX11_game : ByteArray := prog_1_method_35_code
def yX11_game : MethodName := ⟨RX11, "game", "(IIIII)I"⟩
abbrev cX11_rests : ByteArray := prog_1_method_36_code
def yX11_rests : MethodName := ⟨RX11, "rests", "(III)I"⟩
abbrev cX11_odds : ByteArray := prog_1_method_37_code
def yX11_odds : MethodName := ⟨RX11, "odds", "(IIII)I"⟩
abbrev cX11_shares : ByteArray := prog_1_method_38_code
def yX11_shares : MethodName := ⟨RX11, "shares", "(II)I"⟩
abbrev cX11_ahead : ByteArray := prog_1_method_39_code
def yX11_ahead : MethodName := ⟨RX11, "ahead", "(I)I"⟩
abbrev cX11_all : ByteArray := prog_1_method_40_code
def yX11_all : MethodName := ⟨RX11, "all", "(I)I"⟩
abbrev cX11_image : ByteArray := prog_1_method_41_code
def yX11_image : MethodName := ⟨RX11, "image", "()I"⟩
abbrev cX11_back : ByteArray := prog_1_method_42_code
def yX11_back : MethodName := ⟨RX11, "back", "()I"⟩
abbrev cX11_count : ByteArray := prog_1_method_43_code
def yX11_count : MethodName := ⟨RX11, "count", "(I)I"⟩
def RX12 : String := "PrintsGoOnModel"
def TX12 : u_T := fun k => match k with
  | 0 => ("PrintsGoOnModel", "thrown", "I", false)
  | 1 => ("PrintsGoOnModel", "tape", "[B", true)
  | 2 => ("PrintsGoOnModel", "texts", "[B", true)
  | 3 => ("PrintsGoOnModel", "textLong", "[I", true)
  | 4 => ("PrintsGoOnModel", "letters", "[I", true)
  | 5 => ("PrintsGoOnModel", "text", "[B", false)
  | 6 => ("PrintsGoOnModel", "length", "I", false)
  | 7 => ("PrintsGoOnModel", "lawMany", "I", false)
  | 8 => ("PrintsGoOnModel", "begins", "I", false)
  | 9 => ("PrintsGoOnModel", "ends", "I", false)
  | 10 => ("PrintsGoOnModel", "at", "I", false)
  | 11 => ("PrintsGoOnModel", "fault", "I", false)
  | 12 => ("PrintsGoOnModel", "deep", "I", false)
  | 13 => ("PrintsGoOnModel", "label", "I", false)
  | 14 => ("PrintsGoOnModel", "found", "I", false)
  | 15 => ("PrintsGoOnModel", "labels", "Ljava/lang/String;", true)
  | 16 => ("PrintsGoOnModel", "allowed", "Ljava/lang/String;", true)
  | 17 => ("PrintsGoOnModel", "hasFound", "Z", false)
  | 18 => ("PrintsGoOnModel", "rule", "[I", true)
  | 19 => ("PrintsGoOnModel", "ruleRead", "[I", true)
  | 20 => ("PrintsGoOnModel", "folk", "[I", true)
  | 21 => ("PrintsGoOnModel", "folkRead", "[I", true)
  | 22 => ("PrintsGoOnModel", "land", "[I", true)
  | 23 => ("PrintsGoOnModel", "landRead", "[I", true)
  | 24 => ("PrintsGoOnModel", "landLong", "[I", true)
  | 25 => ("PrintsGoOnModel", "plan", "[I", true)
  | 26 => ("PrintsGoOnModel", "planLong", "[I", true)
  | 27 => ("PrintsGoOnModel", "goers", "I", false)
  | 28 => ("PrintsGoOnModel", "goersRead", "I", false)
  | 29 => ("PrintsGoOnModel", "rowsRead", "I", false)
  | 30 => ("PrintsGoOnModel", "plans", "I", false)
  | 31 => ("PrintsGoOnModel", "hasRules", "Z", false)
  | 32 => ("PrintsGoOnModel", "now", "[I", true)
  | 33 => ("PrintsGoOnModel", "trial", "[I", true)
  | 34 => ("PrintsGoOnModel", "law", "I", false)
  | 35 => ("PrintsGoOnModel", "lively", "I", false)
  | 36 => ("PrintsGoOnModel", "memoKey", "[I", true)
  | 37 => ("PrintsGoOnModel", "memoWorth", "[I", true)
  | 38 => ("PrintsGoOnModel", "pairs", "I", false)
  | 39 => ("PrintsGoOnModel", "ended", "I", false)
  | 40 => ("PrintsGoOnModel", "undoRow", "[I", true)
  | 41 => ("PrintsGoOnModel", "acts", "I", false)
  | 42 => ("PrintsGoOnModel", "x", "J", false)
  | 43 => ("PrintsGoOnModel", "steps", "[I", true)
  | 44 => ("PrintsGoOnModel", "sight", "[I", true)
  | 45 => ("PrintsGoOnModel", "path", "[I", true)
  | 46 => ("PrintsGoOnModel", "tally", "[I", true)
  | 47 => ("PrintsGoOnModel", "sights", "I", false)
  | 48 => ("PrintsGoOnModel", "saved", "[I", true)
  | 49 => ("PrintsGoOnModel", "imageRow", "[I", true)
  | _ => ("PrintsGoOnModel", "hasImage", "Z", false)
def tyX12 : Nat → FieldType := fun k => match k with
  | 0 => .int
  | 1 => .array .byte
  | 2 => .array .byte
  | 3 => .array .int
  | 4 => .array .int
  | 5 => .array .byte
  | 6 => .int
  | 7 => .int
  | 8 => .int
  | 9 => .int
  | 10 => .int
  | 11 => .int
  | 12 => .int
  | 13 => .int
  | 14 => .int
  | 15 => .object "java/lang/String"
  | 16 => .object "java/lang/String"
  | 17 => .boolean
  | 18 => .array .int
  | 19 => .array .int
  | 20 => .array .int
  | 21 => .array .int
  | 22 => .array .int
  | 23 => .array .int
  | 24 => .array .int
  | 25 => .array .int
  | 26 => .array .int
  | 27 => .int
  | 28 => .int
  | 29 => .int
  | 30 => .int
  | 31 => .boolean
  | 32 => .array .int
  | 33 => .array .int
  | 34 => .int
  | 35 => .int
  | 36 => .array .int
  | 37 => .array .int
  | 38 => .int
  | 39 => .int
  | 40 => .array .int
  | 41 => .int
  | 42 => .long
  | 43 => .array .int
  | 44 => .array .int
  | 45 => .array .int
  | 46 => .array .int
  | 47 => .int
  | 48 => .array .int
  | 49 => .array .int
  | _ => .boolean
theorem nmX12 : ∀ a, a < 51 → ∀ b, b < 51 → a ≠ b → (TX12 a).2.1 ≠ (TX12 b).2.1 := by decide +kernel
theorem tyX12_ok : ∀ k, k < 51 → parseFieldDescriptor (TX12 k).2.2.1 = some (tyX12 k) := by decide +kernel
abbrev cX12_init : ByteArray := prog_14_method_1_code
def yX12_init : MethodName := ⟨RX12, "<init>", "()V"⟩
abbrev cX12_thrown : ByteArray := prog_14_method_2_code
def yX12_thrown : MethodName := ⟨RX12, "thrown", "()I"⟩
abbrev cX12_isIn : ByteArray := prog_14_method_3_code
def yX12_isIn : MethodName := ⟨RX12, "isIn", "(JJJ)Z"⟩
abbrev cX12_has : ByteArray := prog_14_method_4_code
def yX12_has : MethodName := ⟨RX12, "has", "(II)Z"⟩
abbrev cX12_isAmong : ByteArray := prog_14_method_5_code
def yX12_isAmong : MethodName := ⟨RX12, "isAmong", "(Ljava/lang/String;I)Z"⟩
abbrev cX12_bytesIn : ByteArray := prog_14_method_6_code
def yX12_bytesIn : MethodName := ⟨RX12, "bytesIn", "(I)I"⟩
abbrev cX12_put : ByteArray := prog_14_method_7_code
def yX12_put : MethodName := ⟨RX12, "put", "(I)V"⟩
abbrev cX12_feed : ByteArray := prog_14_method_8_code
def yX12_feed : MethodName := ⟨RX12, "feed", "(IIIII)I"⟩
abbrev cX12_end : ByteArray := prog_14_method_9_code
def yX12_end : MethodName := ⟨RX12, "end", "(I)Z"⟩
abbrev cX12_look : ByteArray := prog_14_method_10_code
def yX12_look : MethodName := ⟨RX12, "look", "()I"⟩
abbrev cX12_fails : ByteArray := prog_14_method_11_code
def yX12_fails : MethodName := ⟨RX12, "fails", "()Z"⟩
abbrev cX12_goesIn : ByteArray := prog_14_method_12_code
def yX12_goesIn : MethodName := ⟨RX12, "goesIn", "()Z"⟩
abbrev cX12_takes : ByteArray := prog_14_method_13_code
def yX12_takes : MethodName := ⟨RX12, "takes", "(I)Z"⟩
abbrev cX12_isDigit : ByteArray := prog_14_method_14_code
def yX12_isDigit : MethodName := ⟨RX12, "isDigit", "()Z"⟩
abbrev cX12_within : ByteArray := prog_14_method_15_code
def yX12_within : MethodName := ⟨RX12, "within", "(J)I"⟩
abbrev cX12_atom : ByteArray := prog_14_method_16_code
def yX12_atom : MethodName := ⟨RX12, "atom", "()I"⟩
abbrev cX12_term : ByteArray := prog_14_method_17_code
def yX12_term : MethodName := ⟨RX12, "term", "()I"⟩
abbrev cX12_sum : ByteArray := prog_14_method_18_code
def yX12_sum : MethodName := ⟨RX12, "sum", "()I"⟩
abbrev cX12_isSign : ByteArray := prog_14_method_19_code
def yX12_isSign : MethodName := ⟨RX12, "isSign", "(I)Z"⟩
abbrev cX12_compares : ByteArray := prog_14_method_20_code
def yX12_compares : MethodName := ⟨RX12, "compares", "(ZI)Z"⟩
abbrev cX12_unit : ByteArray := prog_14_method_21_code
def yX12_unit : MethodName := ⟨RX12, "unit", "()Z"⟩
abbrev cX12_part : ByteArray := prog_14_method_22_code
def yX12_part : MethodName := ⟨RX12, "part", "(ZI)Z"⟩
abbrev cX12_condition : ByteArray := prog_14_method_23_code
def yX12_condition : MethodName := ⟨RX12, "condition", "(ZI)Z"⟩
abbrev cX12_clause : ByteArray := prog_14_method_24_code
def yX12_clause : MethodName := ⟨RX12, "clause", "()V"⟩
abbrev cX12_starts : ByteArray := prog_14_method_25_code
def yX12_starts : MethodName := ⟨RX12, "starts", "([BII)V"⟩
abbrev cX12_goThrough : ByteArray := prog_14_method_26_code
def yX12_goThrough : MethodName := ⟨RX12, "goThrough", "([BII)V"⟩
abbrev cX12_here : ByteArray := prog_14_method_27_code
def yX12_here : MethodName := ⟨RX12, "here", "()I"⟩
abbrev cX12_spotOf : ByteArray := prog_14_method_28_code
def yX12_spotOf : MethodName := ⟨RX12, "spotOf", "(Ljava/lang/String;I)I"⟩
abbrev cX12_number : ByteArray := prog_14_method_29_code
def yX12_number : MethodName := ⟨RX12, "number", "(II)I"⟩
abbrev cX12_mostOf : ByteArray := prog_14_method_30_code
def yX12_mostOf : MethodName := ⟨RX12, "mostOf", "(II)I"⟩
abbrev cX12_leastOf : ByteArray := prog_14_method_31_code
def yX12_leastOf : MethodName := ⟨RX12, "leastOf", "(II)I"⟩
abbrev cX12_usual : ByteArray := prog_14_method_32_code
def yX12_usual : MethodName := ⟨RX12, "usual", "(II)I"⟩
abbrev cX12_readItems : ByteArray := prog_14_method_33_code
def yX12_readItems : MethodName := ⟨RX12, "readItems", "(I[IILjava/lang/String;)V"⟩
abbrev cX12_readRow : ByteArray := prog_14_method_34_code
def yX12_readRow : MethodName := ⟨RX12, "readRow", "()V"⟩
abbrev cX12_readClause : ByteArray := prog_14_method_35_code
def yX12_readClause : MethodName := ⟨RX12, "readClause", "()V"⟩
abbrev cX12_isWhole : ByteArray := prog_14_method_36_code
def yX12_isWhole : MethodName := ⟨RX12, "isWhole", "()Z"⟩
abbrev cX12_readShore : ByteArray := prog_14_method_37_code
def yX12_readShore : MethodName := ⟨RX12, "readShore", "()V"⟩
abbrev cX12_digit : ByteArray := prog_14_method_38_code
def yX12_digit : MethodName := ⟨RX12, "digit", "()I"⟩
abbrev cX12_readStep : ByteArray := prog_14_method_39_code
def yX12_readStep : MethodName := ⟨RX12, "readStep", "(I)V"⟩
abbrev cX12_readPlan : ByteArray := prog_14_method_40_code
def yX12_readPlan : MethodName := ⟨RX12, "readPlan", "()V"⟩
abbrev cX12_fault : ByteArray := prog_14_method_41_code
def yX12_fault : MethodName := ⟨RX12, "fault", "(I)I"⟩
abbrev cX12_text : ByteArray := prog_14_method_42_code
def yX12_text : MethodName := ⟨RX12, "text", "(I)I"⟩
abbrev cX12_cells : ByteArray := prog_14_method_43_code
def yX12_cells : MethodName := ⟨RX12, "cells", "()I"⟩
abbrev cX12_startOf : ByteArray := prog_14_method_44_code
def yX12_startOf : MethodName := ⟨RX12, "startOf", "(I)I"⟩
abbrev cX12_paceOf : ByteArray := prog_14_method_45_code
def yX12_paceOf : MethodName := ⟨RX12, "paceOf", "(I)I"⟩
abbrev cX12_lays : ByteArray := prog_14_method_46_code
def yX12_lays : MethodName := ⟨RX12, "lays", "([I)V"⟩
abbrev cX12_copy : ByteArray := prog_14_method_47_code
def yX12_copy : MethodName := ⟨RX12, "copy", "([I[I)V"⟩
abbrev cX12_isCell : ByteArray := prog_14_method_48_code
def yX12_isCell : MethodName := ⟨RX12, "isCell", "(I)Z"⟩
abbrev cX12_isGoer : ByteArray := prog_14_method_49_code
def yX12_isGoer : MethodName := ⟨RX12, "isGoer", "(I)Z"⟩
abbrev cX12_areTwo : ByteArray := prog_14_method_50_code
def yX12_areTwo : MethodName := ⟨RX12, "areTwo", "(II)Z"⟩
abbrev cX12_does : ByteArray := prog_14_method_51_code
def yX12_does : MethodName := ⟨RX12, "does", "([II)Z"⟩
abbrev cX12_isUnder : ByteArray := prog_14_method_52_code
def yX12_isUnder : MethodName := ⟨RX12, "isUnder", "([II)Z"⟩
abbrev cX12_nextCell : ByteArray := prog_14_method_53_code
def yX12_nextCell : MethodName := ⟨RX12, "nextCell", "(II)I"⟩
abbrev cX12_aheadOf : ByteArray := prog_14_method_54_code
def yX12_aheadOf : MethodName := ⟨RX12, "aheadOf", "([III)I"⟩
abbrev cX12_worthOf : ByteArray := prog_14_method_55_code
def yX12_worthOf : MethodName := ⟨RX12, "worthOf", "(IIIIII)I"⟩
abbrev cX12_turnOf : ByteArray := prog_14_method_56_code
def yX12_turnOf : MethodName := ⟨RX12, "turnOf", "([III)I"⟩
abbrev cX12_goStep : ByteArray := prog_14_method_57_code
def yX12_goStep : MethodName := ⟨RX12, "goStep", "([III)V"⟩
abbrev cX12_goesOn : ByteArray := prog_14_method_58_code
def yX12_goesOn : MethodName := ⟨RX12, "goesOn", "([III)V"⟩
abbrev cX12_passes : ByteArray := prog_14_method_59_code
def yX12_passes : MethodName := ⟨RX12, "passes", "([I)I"⟩
abbrev cX12_goHour : ByteArray := prog_14_method_60_code
def yX12_goHour : MethodName := ⟨RX12, "goHour", "([I)I"⟩
abbrev cX12_haveMet : ByteArray := prog_14_method_61_code
def yX12_haveMet : MethodName := ⟨RX12, "haveMet", "(II)Z"⟩
abbrev cX12_shore : ByteArray := prog_14_method_62_code
def yX12_shore : MethodName := ⟨RX12, "shore", "(II)I"⟩
abbrev cX12_goer : ByteArray := prog_14_method_63_code
def yX12_goer : MethodName := ⟨RX12, "goer", "(II)I"⟩
abbrev cX12_law : ByteArray := prog_14_method_64_code
def yX12_law : MethodName := ⟨RX12, "law", "(I)Z"⟩
abbrev cX12_children : ByteArray := prog_14_method_65_code
def yX12_children : MethodName := ⟨RX12, "children", "(I)Z"⟩
abbrev cX12_remember : ByteArray := prog_14_method_66_code
def yX12_remember : MethodName := ⟨RX12, "remember", "()V"⟩
abbrev cX12_hour : ByteArray := prog_14_method_67_code
def yX12_hour : MethodName := ⟨RX12, "hour", "()I"⟩
abbrev cX12_canTide : ByteArray := prog_14_method_68_code
def yX12_canTide : MethodName := ⟨RX12, "canTide", "([II)Z"⟩
abbrev cX12_tide : ByteArray := prog_14_method_69_code
def yX12_tide : MethodName := ⟨RX12, "tide", "(I)I"⟩
abbrev cX12_goingOn : ByteArray := prog_14_method_70_code
def yX12_goingOn : MethodName := ⟨RX12, "goingOn", "([II)I"⟩
abbrev cX12_stone : ByteArray := prog_14_method_71_code
def yX12_stone : MethodName := ⟨RX12, "stone", "(I)I"⟩
abbrev cX12_canSweep : ByteArray := prog_14_method_72_code
def yX12_canSweep : MethodName := ⟨RX12, "canSweep", "([II)Z"⟩
abbrev cX12_sweeps : ByteArray := prog_14_method_73_code
def yX12_sweeps : MethodName := ⟨RX12, "sweeps", "([II)I"⟩
abbrev cX12_sweep : ByteArray := prog_14_method_74_code
def yX12_sweep : MethodName := ⟨RX12, "sweep", "(I)I"⟩
abbrev cX12_canBegin : ByteArray := prog_14_method_75_code
def yX12_canBegin : MethodName := ⟨RX12, "canBegin", "([III)Z"⟩
abbrev cX12_begins0 : ByteArray := prog_14_method_76_code
def yX12_begins0 : MethodName := ⟨RX12, "begins0", "([III)V"⟩
abbrev cX12_anew : ByteArray := prog_14_method_77_code
def yX12_anew : MethodName := ⟨RX12, "anew", "(II)I"⟩
abbrev cX12_give : ByteArray := prog_14_method_78_code
def yX12_give : MethodName := ⟨RX12, "give", "(I)I"⟩
abbrev cX12_draw : ByteArray := prog_14_method_79_code
def yX12_draw : MethodName := ⟨RX12, "draw", "(I)I"⟩
abbrev cX12_years : ByteArray := prog_14_method_80_code
def yX12_years : MethodName := ⟨RX12, "years", "(IJ)I"⟩
abbrev cX12_undo : ByteArray := prog_14_method_81_code
def yX12_undo : MethodName := ⟨RX12, "undo", "()I"⟩
abbrev cX12_log : ByteArray := prog_14_method_82_code
def yX12_log : MethodName := ⟨RX12, "log", "(II)I"⟩
abbrev cX12_isPlan : ByteArray := prog_14_method_83_code
def yX12_isPlan : MethodName := ⟨RX12, "isPlan", "(I)Z"⟩
abbrev cX12_step : ByteArray := prog_14_method_84_code
def yX12_step : MethodName := ⟨RX12, "step", "(III)I"⟩
abbrev cX12_canStep : ByteArray := prog_14_method_85_code
def yX12_canStep : MethodName := ⟨RX12, "canStep", "([II)Z"⟩
abbrev cX12_goPlan : ByteArray := prog_14_method_86_code
def yX12_goPlan : MethodName := ⟨RX12, "goPlan", "([II)I"⟩
abbrev cX12_run : ByteArray := prog_14_method_87_code
def yX12_run : MethodName := ⟨RX12, "run", "(II)I"⟩
abbrev cX12_perform : ByteArray := prog_14_method_88_code
def yX12_perform : MethodName := ⟨RX12, "perform", "(I)I"⟩
abbrev cX12_where : ByteArray := prog_14_method_89_code
def yX12_where : MethodName := ⟨RX12, "where", "(II)I"⟩
abbrev cX12_meetsWithin : ByteArray := prog_14_method_90_code
def yX12_meetsWithin : MethodName := ⟨RX12, "meetsWithin", "(III)I"⟩
abbrev cX12_meet : ByteArray := prog_14_method_91_code
def yX12_meet : MethodName := ⟨RX12, "meet", "(II)I"⟩
abbrev cX12_ends : ByteArray := prog_14_method_92_code
def yX12_ends : MethodName := ⟨RX12, "ends", "(II)I"⟩
abbrev cX12_again : ByteArray := prog_14_method_93_code
def yX12_again : MethodName := ⟨RX12, "again", "(I)I"⟩
abbrev cX12_isDry : ByteArray := prog_14_method_94_code
def yX12_isDry : MethodName := ⟨RX12, "isDry", "(I)Z"⟩
abbrev cX12_goSteps : ByteArray := prog_14_method_95_code
def yX12_goSteps : MethodName := ⟨RX12, "goSteps", "(I)V"⟩
abbrev cX12_way : ByteArray := prog_14_method_96_code
def yX12_way : MethodName := ⟨RX12, "way", "(II)I"⟩
abbrev cX12_canLay : ByteArray := prog_14_method_97_code
def yX12_canLay : MethodName := ⟨RX12, "canLay", "(I)Z"⟩
abbrev cX12_doesKeep : ByteArray := prog_14_method_98_code
def yX12_doesKeep : MethodName := ⟨RX12, "doesKeep", "(IIIII)Z"⟩
abbrev cX12_stonesOf : ByteArray := prog_14_method_99_code
def yX12_stonesOf : MethodName := ⟨RX12, "stonesOf", "(III)I"⟩
abbrev cX12_stones : ByteArray := prog_14_method_100_code
def yX12_stones : MethodName := ⟨RX12, "stones", "(IIII)I"⟩
abbrev cX12_seen : ByteArray := prog_14_method_101_code
def yX12_seen : MethodName := ⟨RX12, "seen", "(III)I"⟩
abbrev cX12_laysPaths : ByteArray := prog_14_method_102_code
def yX12_laysPaths : MethodName := ⟨RX12, "laysPaths", "(I)V"⟩
abbrev cX12_isFit : ByteArray := prog_14_method_103_code
def yX12_isFit : MethodName := ⟨RX12, "isFit", "(II)Z"⟩
abbrev cX12_fits : ByteArray := prog_14_method_104_code
def yX12_fits : MethodName := ⟨RX12, "fits", "(II)I"⟩
abbrev cX12_ask : ByteArray := prog_14_method_105_code
def yX12_ask : MethodName := ⟨RX12, "ask", "(I)I"⟩
abbrev cX12_gameOf : ByteArray := prog_14_method_106_code
def yX12_gameOf : MethodName := ⟨RX12, "gameOf", "(IIIII)I"⟩
abbrev cX12_canPlay : ByteArray := prog_14_method_107_code
def yX12_canPlay : MethodName := ⟨RX12, "canPlay", "(II)Z"⟩
abbrev cX12_game : ByteArray := prog_14_method_108_code
def yX12_game : MethodName := ⟨RX12, "game", "(IIIII)I"⟩
abbrev cX12_rests : ByteArray := prog_14_method_109_code
def yX12_rests : MethodName := ⟨RX12, "rests", "(III)I"⟩
abbrev cX12_oddsFrom : ByteArray := prog_14_method_110_code
def yX12_oddsFrom : MethodName := ⟨RX12, "oddsFrom", "(IIIII)I"⟩
abbrev cX12_odds : ByteArray := prog_14_method_111_code
def yX12_odds : MethodName := ⟨RX12, "odds", "(IIII)I"⟩
abbrev cX12_shares : ByteArray := prog_14_method_112_code
def yX12_shares : MethodName := ⟨RX12, "shares", "(II)I"⟩
abbrev cX12_ahead : ByteArray := prog_14_method_113_code
def yX12_ahead : MethodName := ⟨RX12, "ahead", "(I)I"⟩
abbrev cX12_greatest : ByteArray := prog_14_method_114_code
def yX12_greatest : MethodName := ⟨RX12, "greatest", "(I)I"⟩
abbrev cX12_thoseWho : ByteArray := prog_14_method_115_code
def yX12_thoseWho : MethodName := ⟨RX12, "thoseWho", "(I)I"⟩
abbrev cX12_dry : ByteArray := prog_14_method_116_code
def yX12_dry : MethodName := ⟨RX12, "dry", "(Z)I"⟩
abbrev cX12_crowd : ByteArray := prog_14_method_117_code
def yX12_crowd : MethodName := ⟨RX12, "crowd", "()I"⟩
abbrev cX12_busy : ByteArray := prog_14_method_118_code
def yX12_busy : MethodName := ⟨RX12, "busy", "()I"⟩
abbrev cX12_doesFace : ByteArray := prog_14_method_119_code
def yX12_doesFace : MethodName := ⟨RX12, "doesFace", "(II)Z"⟩
abbrev cX12_faced : ByteArray := prog_14_method_120_code
def yX12_faced : MethodName := ⟨RX12, "faced", "()I"⟩
abbrev cX12_all : ByteArray := prog_14_method_121_code
def yX12_all : MethodName := ⟨RX12, "all", "(I)I"⟩
abbrev cX12_image : ByteArray := prog_14_method_122_code
def yX12_image : MethodName := ⟨RX12, "image", "()I"⟩
abbrev cX12_back : ByteArray := prog_14_method_123_code
def yX12_back : MethodName := ⟨RX12, "back", "()I"⟩
abbrev cX12_count : ByteArray := prog_14_method_124_code
def yX12_count : MethodName := ⟨RX12, "count", "(I)I"⟩
def RJ6 : String := "java/lang/Integer"
abbrev cJ6_bitCount_0f7a4 : ByteArray := prog_20_method_49_code
def yJ6_bitCount_0f7a4 : MethodName := ⟨RJ6, "bitCount", "(I)I"⟩
def RJ9 : String := "java/lang/Math"
abbrev cJ9_floorMod_7cf53 : ByteArray := prog_21_method_50_code
def yJ9_floorMod_7cf53 : MethodName := ⟨RJ9, "floorMod", "(II)I"⟩
abbrev cJ9_max_7cf53 : ByteArray := prog_21_method_65_code
def yJ9_max_7cf53 : MethodName := ⟨RJ9, "max", "(II)I"⟩
abbrev cJ9_max_f86c9 : ByteArray := prog_21_method_66_code
def yJ9_max_f86c9 : MethodName := ⟨RJ9, "max", "(JJ)J"⟩
abbrev cJ9_min_7cf53 : ByteArray := prog_21_method_69_code
def yJ9_min_7cf53 : MethodName := ⟨RJ9, "min", "(II)I"⟩
abbrev cJ9_min_f86c9 : ByteArray := prog_21_method_70_code
def yJ9_min_f86c9 : MethodName := ⟨RJ9, "min", "(JJ)J"⟩
def RJ0 : String := "java/lang/String"
abbrev cJ0_length_8abf5 : ByteArray := prog_23_method_54_code
def yJ0_length_8abf5 : MethodName := ⟨RJ0, "length", "()I"⟩
abbrev cJ0_charAt_5068e : ByteArray := prog_23_method_56_code
def yJ0_charAt_5068e : MethodName := ⟨RJ0, "charAt", "(I)C"⟩
abbrev cJ0_coder_7d493 : ByteArray := prog_23_method_152_code
def yJ0_coder_7d493 : MethodName := ⟨RJ0, "coder", "()B"⟩
abbrev cJ0_isLatin1_aae02 : ByteArray := prog_23_method_154_code
def yJ0_isLatin1_aae02 : MethodName := ⟨RJ0, "isLatin1", "()Z"⟩
abbrev cJ0_checkIndex_df160 : ByteArray := prog_23_method_155_code
def yJ0_checkIndex_df160 : MethodName := ⟨RJ0, "checkIndex", "(II)V"⟩
def RJ1 : String := "java/lang/StringLatin1"
abbrev cJ1_charAt_3b067 : ByteArray := prog_24_method_2_code
def yJ1_charAt_3b067 : MethodName := ⟨RJ1, "charAt", "([BI)C"⟩
def RJ2 : String := "java/lang/StringUTF16"
abbrev cJ2_getChar_3b067 : ByteArray := prog_25_method_5_code
def yJ2_getChar_3b067 : MethodName := ⟨RJ2, "getChar", "([BI)C"⟩
abbrev cJ2_length_9d52b : ByteArray := prog_25_method_6_code
def yJ2_length_9d52b : MethodName := ⟨RJ2, "length", "([B)I"⟩
abbrev cJ2_charAt_3b067 : ByteArray := prog_25_method_83_code
def yJ2_charAt_3b067 : MethodName := ⟨RJ2, "charAt", "([BI)C"⟩
abbrev cJ2_checkIndex_2214a : ByteArray := prog_25_method_91_code
def yJ2_checkIndex_2214a : MethodName := ⟨RJ2, "checkIndex", "(I[B)V"⟩
def RJ10 : String := "java/lang/System"
def RJ7 : String := "java/util/Arrays"
abbrev cJ7_fill_53178 : ByteArray := prog_30_method_103_code
def yJ7_fill_53178 : MethodName := ⟨RJ7, "fill", "([II)V"⟩
abbrev cJ7_copyOf_59c91 : ByteArray := prog_30_method_123_code
def yJ7_copyOf_59c91 : MethodName := ⟨RJ7, "copyOf", "([II)[I"⟩
def RJ3 : String := "jdk/internal/util/Preconditions"
abbrev cJ3_checkIndex_8e157 : ByteArray := prog_32_method_11_code
def yJ3_checkIndex_8e157 : MethodName := ⟨RJ3, "checkIndex", "(IILjava/util/function/BiFunction;)I"⟩
def RL : String := "PrintsGoOnLaw"
abbrev cL_goer : ByteArray := method_3_code
def yL_goer : MethodName := ⟨RL, "goer", "(LPrintsGoOn;II[J)I"⟩
abbrev cL_law : ByteArray := code
def yL_law : MethodName := ⟨RL, "law", "([I)Z"⟩
abbrev vwCl : List vw_C := [(RX0, TX0, 2), (RX1, TX1, 3), (RX2, TX2, 9), (RX3, TX3, 1), (RX4, TX4, 3), (RX5, TX5, 7), (RX6, TX6, 1), (RX7, TX7, 8), (RX8, TX8, 9), (RX9, TX9, 5), (RX10, TX10, 5), (RX11, TX11, 18), (RX12, TX12, 51)]
end
section
/-! the world: cells by number; kinds, fields, refs -/
abbrev gz_S : Type := (Nat → Nat → Int32) × (Nat → Nat → Int64) × (Nat → Option Nat)
/-- laws, evenings, how long the rows of those are -/
abbrev gz_L : Type := Nat × Nat × (Nat → Nat)
def gz_st : List (Nat × Nat) := [(0, 11), (0, 9), (0, 7), (0, 4), (0, 1), (0, 6), (0, 6), (0, 6), (0, 10), (0, 5), (0, 2), (0, 8), (4, 4), (5, 4), (1, 240), (1, 4), (1, 16), (1, 30), (1, 5), (1, 241), (1, 48), (1, 61), (1, 61), (1, 61), (1, 6), (1, 240), (1, 2000), (1, 100), (1, 50), (1, 100), (1, 30), (1, 16), (1, 16), (1, 10), (1, 10), (1, 10), (1, 496), (1, 30), (3, 1), (0, 12), (2, 240), (2, 960), (1, 4), (1, 128), (1, 4), (1, 4), (1, 16), (1, 16), (1, 30), (1, 30), (1, 5), (1, 240), (1, 5), (1, 231), (1, 231), (1, 8191), (1, 8191), (1, 9240), (1, 30), (1, 30), (1, 496), (1, 30), (1, 357), (1, 231)]
def gz_kd (La : gz_L) (j : Nat) : Nat × Nat := if j < 64 then gz_st.getD j (9, 0) else
  if 100 ≤ j ∧ j < 108 ∧ j < 100 + 2 * La.1 then (if (j - 100) % 2 = 0 then (0, 3) else (1, La.2.2 j)) else
  if 110 ≤ j ∧ j < 118 ∧ j < 110 + 2 * La.2.1 then (if (j - 110) % 2 = 0 then (0, 0) else (1, La.2.2 j)) else (9, 0)
def gz_lv (La : gz_L) : List Nat := List.range 64 ++ ((List.range (2 * La.1)).map (fun i => 100 + i) ++ (List.range (2 * La.2.1)).map (fun i => 110 + i))
def gz_ftt : List (List Nat) := [[0, 2], [2, 2, 0], [0, 0, 2, 2, 2, 0, 2, 2, 2], [2], [2, 2, 0], [0, 2, 2, 2, 2, 0, 0], [2], [2, 2, 2, 2, 2, 0, 0, 0], [0, 2, 2, 2, 2, 2, 2, 2, 2], [2, 0, 0, 0, 0], [2, 0, 0, 2, 2], [2, 2, 2, 2, 2, 2, 2, 2, 2, 2, 2, 2, 2, 0, 0, 0, 0, 1], [0, 2, 2, 2, 2, 2, 0, 0, 0, 0, 0, 0, 0, 0, 0, 2, 2, 0, 2, 2, 2, 2, 2, 2, 2, 2, 2, 0, 0, 0, 0, 0, 2, 2, 0, 0, 2, 2, 0, 0, 2, 0, 1, 2, 2, 2, 2, 0, 2, 2, 0]]
def gz_ft (ci k : Nat) : Nat := (gz_ftt.getD ci []).getD k 2
def gz_nf (ci : Nat) : Nat := (gz_ftt.getD ci []).length
def gz_rft : List (List (Option Nat)) := [[some 1, some 2, some 3, some 4, some 12, some 13, some 5, some 6, some 7, some 8, some 9, some 10, some 11, none, none, none, none, none], [some 14, none, none, none, none], [some 1, some 15, some 16, some 17, some 18, none, none, none], [some 1, some 19, none], [some 1, some 20, none], [some 21], [some 22], [some 23], [none, none, none, some 24, some 25], [none, some 26, some 27, some 28, some 29, none, none], [none, none, some 6, some 7, some 8, none, some 30, some 31, some 32], [none, some 5, some 7, some 8, some 33, some 34, some 35, some 36, some 37], [], [], [], [], [], [], [], [], [], [], [], [], [], [], [], [], [], [], [], [], [], [], [], [], [], [], [], [none, some 40, some 41, some 42, some 43, none, none, none, none, none, none, none, none, none, none, some 210, some 211, none, some 44, some 45, some 46, some 47, some 48, some 49, some 50, some 51, some 52, none, none, none, none, none, some 53, some 54, none, none, some 55, some 56, none, none, some 57, none, none, some 58, some 59, some 60, some 61, none, some 62, some 63, none]]
/-- what a ref of cell j, place k, is: the few that change first -/
def gz_rf (La : gz_L) (g : gz_S) (j k : Nat) : Option Nat :=
  if j = 8 ∧ k = 0 then g.2.2 0 else if j = 39 ∧ k = 5 then g.2.2 1 else
  if j < 40 then (if j = 12 then (if k < La.1 then some (100 + 2 * k) else none) else if j = 13 then (if k < La.2.1 then some (110 + 2 * k) else none) else ((gz_rft.getD j []).getD k none)) else
  if (100 ≤ j ∧ j < 108 ∧ k = 0) ∨ (110 ≤ j ∧ j < 118 ∧ k = 1) then some (j + 1) else none
def gz_fv (La : gz_L) (a : Nat → Nat) (g : gz_S) (j ci k : Nat) : Value :=
  if gz_ft ci k = 0 then .int (g.1 j k) else if gz_ft ci k = 1 then .long (g.2.1 j k) else va_rf ((gz_rf La g j k).map a)
def gz_ce (cs : Nat → ClassId) (La : gz_L) (a : Nat → Nat) (g : gz_S) (j : Nat) : va_E :=
  if (gz_kd La j).1 = 0 then .inr ((gz_kd La j).2, (List.range (gz_nf (gz_kd La j).2)).map (gz_fv La a g j (gz_kd La j).2)) else
  if (gz_kd La j).1 = 1 then .inl (cs 0, (gz_kd La j).2, .inl (g.1 j)) else
  if (gz_kd La j).1 = 2 then .inl (cs 1, (gz_kd La j).2, .inl (g.1 j)) else
  if (gz_kd La j).1 = 3 then .inl (cs 2, (gz_kd La j).2, .inr (.inl (g.2.1 j))) else
  if (gz_kd La j).1 = 4 then .inl (cs 3, (gz_kd La j).2, .inr (.inr (.inr (.inr (fun i => (gz_rf La g j i).map a))))) else
  .inl (cs 4, (gz_kd La j).2, .inr (.inr (.inr (.inr (fun i => (gz_rf La g j i).map a)))))
def gz_w (cs : Nat → ClassId) (La : gz_L) (a : Nat → Nat) (g : gz_S) : va_W := (gz_lv La).map (fun j => (a j, gz_ce cs La a g j))
def gz_ty (cs : Nat → ClassId) : List (ClassId × FieldType) := [(cs 0, .int), (cs 1, .byte), (cs 2, .long), (cs 3, .object "PrintsGoOn$Law"), (cs 4, .object "PrintsGoOn$Evening")]
/-- a cell that is there -/
theorem gz_in {La : gz_L} {j : Nat} (h : (gz_kd La j).1 < 9) : j ∈ gz_lv La := by
  unfold gz_kd at h
  unfold gz_lv
  simp only [List.mem_append, List.mem_range, List.mem_map]
  by_cases h1 : j < 64
  · exact Or.inl h1
  · rw [if_neg h1] at h
    by_cases h2 : 100 ≤ j ∧ j < 108 ∧ j < 100 + 2 * La.1
    · exact Or.inr (Or.inl ⟨j - 100, by omega, by omega⟩)
    · rw [if_neg h2] at h
      by_cases h3 : 110 ≤ j ∧ j < 118 ∧ j < 110 + 2 * La.2.1
      · exact Or.inr (Or.inr ⟨j - 110, by omega, by omega⟩)
      · rw [if_neg h3] at h
        exact absurd h (by decide)
theorem gz_at {cs : Nat → ClassId} {La : gz_L} {a : Nat → Nat} {g : gz_S} {j : Nat} (h : (gz_kd La j).1 < 9) : ∃ q : Nat, (gz_lv La)[q]? = some j ∧ (gz_w cs La a g)[q]? = some (a j, gz_ce cs La a g j) := by
  obtain ⟨q, hq⟩ := List.getElem?_of_mem (gz_in h)
  exact ⟨q, hq, by unfold gz_w; rw [List.getElem?_map, hq]; rfl⟩
/-- another store that differs at one cell alone -/
theorem gz_set {cs : Nat → ClassId} {La : gz_L} {a : Nat → Nat} {g g' : gz_S} {j q : Nat} {A : Nat → Prop} {e : va_E} (hD : va_D A (gz_w cs La a g)) (hq : (gz_lv La)[q]? = some j) (he : gz_ce cs La a g' j = e) (ho : ∀ i, i ≠ j → gz_ce cs La a g' i = gz_ce cs La a g i) : (gz_w cs La a g).set q (a j, e) = gz_w cs La a g' := by
  apply List.ext_getElem?
  intro n
  unfold gz_w
  rw [List.getElem?_set]
  by_cases hn : q = n
  · subst hn
    have hlt : q < ((gz_lv La).map (fun j => (a j, gz_ce cs La a g j))).length := by
      rw [List.length_map]; exact (List.getElem?_eq_some_iff.mp hq).1
    rw [if_pos rfl, if_pos hlt, List.getElem?_map, hq, ← he]
    rfl
  · rw [if_neg hn, List.getElem?_map, List.getElem?_map]
    cases hi : (gz_lv La)[n]? with
    | none => rfl
    | some i =>
      have hij : i ≠ j := by
        intro hij
        subst hij
        have h1 : (gz_w cs La a g)[q]? = some (a i, gz_ce cs La a g i) := by unfold gz_w; rw [List.getElem?_map, hq]; rfl
        have h2 : (gz_w cs La a g)[n]? = some (a i, gz_ce cs La a g i) := by unfold gz_w; rw [List.getElem?_map, hi]; rfl
        exact hn (hD.1 q n _ _ h1 h2 rfl)
      simp only [Option.map_some, ho i hij]
def gz_kR (ci : Nat) : String := if ci = 0 then RX0 else if ci = 1 then RX1 else if ci = 2 then RX2 else if ci = 3 then RX3 else if ci = 4 then RX4 else if ci = 5 then RX5 else if ci = 6 then RX6 else if ci = 7 then RX7 else if ci = 8 then RX8 else if ci = 9 then RX9 else if ci = 10 then RX10 else if ci = 11 then RX11 else RX12
def gz_kT (ci : Nat) : u_T := if ci = 0 then TX0 else if ci = 1 then TX1 else if ci = 2 then TX2 else if ci = 3 then TX3 else if ci = 4 then TX4 else if ci = 5 then TX5 else if ci = 6 then TX6 else if ci = 7 then TX7 else if ci = 8 then TX8 else if ci = 9 then TX9 else if ci = 10 then TX10 else if ci = 11 then TX11 else TX12
def gz_kY (ci : Nat) : Nat → FieldType := if ci = 0 then tyX0 else if ci = 1 then tyX1 else if ci = 2 then tyX2 else if ci = 3 then tyX3 else if ci = 4 then tyX4 else if ci = 5 then tyX5 else if ci = 6 then tyX6 else if ci = 7 then tyX7 else if ci = 8 then tyX8 else if ci = 9 then tyX9 else if ci = 10 then tyX10 else if ci = 11 then tyX11 else tyX12
/-- the words that any of our methods may use -/
def gz_U : List Cond := lw_tbl.filter goodWord
theorem gz_mem {w : Cond} (i : Nat) (h : lw_tbl[i]? = some w) (hg : goodWord w = true) : w ∈ gz_U := List.mem_filter.mpr ⟨List.mem_of_getElem? h, hg⟩
theorem gz_cl {ci : Nat} (h : ci < 13) : vwCl[ci]? = some (gz_kR ci, gz_kT ci, gz_nf ci) := by
  match ci, h with
  | 0, _ => rfl
  | 1, _ => rfl
  | 2, _ => rfl
  | 3, _ => rfl
  | 4, _ => rfl
  | 5, _ => rfl
  | 6, _ => rfl
  | 7, _ => rfl
  | 8, _ => rfl
  | 9, _ => rfl
  | 10, _ => rfl
  | 11, _ => rfl
  | 12, _ => rfl
theorem gz_tyok {ci : Nat} (h : ci < 13) : ∀ k, k < gz_nf ci → parseFieldDescriptor (gz_kT ci k).2.2.1 = some (gz_kY ci k) := by
  match ci, h with
  | 0, _ => exact tyX0_ok
  | 1, _ => exact tyX1_ok
  | 2, _ => exact tyX2_ok
  | 3, _ => exact tyX3_ok
  | 4, _ => exact tyX4_ok
  | 5, _ => exact tyX5_ok
  | 6, _ => exact tyX6_ok
  | 7, _ => exact tyX7_ok
  | 8, _ => exact tyX8_ok
  | 9, _ => exact tyX9_ok
  | 10, _ => exact tyX10_ok
  | 11, _ => exact tyX11_ok
  | 12, _ => exact tyX12_ok
theorem gz_nmok {ci : Nat} (h : ci < 13) : ∀ a, a < gz_nf ci → ∀ b, b < gz_nf ci → a ≠ b → (gz_kT ci a).2.1 ≠ (gz_kT ci b).2.1 := by
  match ci, h with
  | 0, _ => exact nmX0
  | 1, _ => exact nmX1
  | 2, _ => exact nmX2
  | 3, _ => exact nmX3
  | 4, _ => exact nmX4
  | 5, _ => exact nmX5
  | 6, _ => exact nmX6
  | 7, _ => exact nmX7
  | 8, _ => exact nmX8
  | 9, _ => exact nmX9
  | 10, _ => exact nmX10
  | 11, _ => exact nmX11
  | 12, _ => exact nmX12
set_option maxRecDepth 100000 in
theorem gz_uw0 : ∀ w ∈ u_ws RX0 TX0 2, w ∈ gz_U := by
  have h : (u_ws RX0 TX0 2) = ([673, 675] : List Nat).filterMap (fun i => lw_tbl[i]?) := by decide +kernel
  have hg : (u_ws RX0 TX0 2).all goodWord = true := by decide +kernel
  intro w hw
  refine List.mem_filter.mpr ⟨?_, List.all_eq_true.mp hg w hw⟩
  rw [h] at hw
  obtain ⟨i, -, hi⟩ := List.mem_filterMap.mp hw
  exact List.mem_of_getElem? hi
set_option maxRecDepth 100000 in
theorem gz_uw1 : ∀ w ∈ u_ws RX1 TX1 3, w ∈ gz_U := by
  have h : (u_ws RX1 TX1 3) = ([228, 230, 232] : List Nat).filterMap (fun i => lw_tbl[i]?) := by decide +kernel
  have hg : (u_ws RX1 TX1 3).all goodWord = true := by decide +kernel
  intro w hw
  refine List.mem_filter.mpr ⟨?_, List.all_eq_true.mp hg w hw⟩
  rw [h] at hw
  obtain ⟨i, -, hi⟩ := List.mem_filterMap.mp hw
  exact List.mem_of_getElem? hi
set_option maxRecDepth 100000 in
theorem gz_uw2 : ∀ w ∈ u_ws RX2 TX2 9, w ∈ gz_U := by
  have h : (u_ws RX2 TX2 9) = ([327, 329, 331, 333, 335, 337, 339, 341, 343] : List Nat).filterMap (fun i => lw_tbl[i]?) := by decide +kernel
  have hg : (u_ws RX2 TX2 9).all goodWord = true := by decide +kernel
  intro w hw
  refine List.mem_filter.mpr ⟨?_, List.all_eq_true.mp hg w hw⟩
  rw [h] at hw
  obtain ⟨i, -, hi⟩ := List.mem_filterMap.mp hw
  exact List.mem_of_getElem? hi
set_option maxRecDepth 100000 in
theorem gz_uw3 : ∀ w ∈ u_ws RX3 TX3 1, w ∈ gz_U := by
  have h : (u_ws RX3 TX3 1) = ([656] : List Nat).filterMap (fun i => lw_tbl[i]?) := by decide +kernel
  have hg : (u_ws RX3 TX3 1).all goodWord = true := by decide +kernel
  intro w hw
  refine List.mem_filter.mpr ⟨?_, List.all_eq_true.mp hg w hw⟩
  rw [h] at hw
  obtain ⟨i, -, hi⟩ := List.mem_filterMap.mp hw
  exact List.mem_of_getElem? hi
set_option maxRecDepth 100000 in
theorem gz_uw4 : ∀ w ∈ u_ws RX4 TX4 3, w ∈ gz_U := by
  have h : (u_ws RX4 TX4 3) = ([212, 214, 216] : List Nat).filterMap (fun i => lw_tbl[i]?) := by decide +kernel
  have hg : (u_ws RX4 TX4 3).all goodWord = true := by decide +kernel
  intro w hw
  refine List.mem_filter.mpr ⟨?_, List.all_eq_true.mp hg w hw⟩
  rw [h] at hw
  obtain ⟨i, -, hi⟩ := List.mem_filterMap.mp hw
  exact List.mem_of_getElem? hi
set_option maxRecDepth 100000 in
theorem gz_uw5 : ∀ w ∈ u_ws RX5 TX5 7, w ∈ gz_U := by
  have h : (u_ws RX5 TX5 7) = ([295, 297, 299, 301, 303, 305, 307] : List Nat).filterMap (fun i => lw_tbl[i]?) := by decide +kernel
  have hg : (u_ws RX5 TX5 7).all goodWord = true := by decide +kernel
  intro w hw
  refine List.mem_filter.mpr ⟨?_, List.all_eq_true.mp hg w hw⟩
  rw [h] at hw
  obtain ⟨i, -, hi⟩ := List.mem_filterMap.mp hw
  exact List.mem_of_getElem? hi
set_option maxRecDepth 100000 in
theorem gz_uw6 : ∀ w ∈ u_ws RX6 TX6 1, w ∈ gz_U := by
  have h : (u_ws RX6 TX6 1) = ([253] : List Nat).filterMap (fun i => lw_tbl[i]?) := by decide +kernel
  have hg : (u_ws RX6 TX6 1).all goodWord = true := by decide +kernel
  intro w hw
  refine List.mem_filter.mpr ⟨?_, List.all_eq_true.mp hg w hw⟩
  rw [h] at hw
  obtain ⟨i, -, hi⟩ := List.mem_filterMap.mp hw
  exact List.mem_of_getElem? hi
set_option maxRecDepth 100000 in
theorem gz_uw7 : ∀ w ∈ u_ws RX7 TX7 8, w ∈ gz_U := by
  have h : (u_ws RX7 TX7 8) = ([186, 188, 190, 192, 194, 196, 198, 200] : List Nat).filterMap (fun i => lw_tbl[i]?) := by decide +kernel
  have hg : (u_ws RX7 TX7 8).all goodWord = true := by decide +kernel
  intro w hw
  refine List.mem_filter.mpr ⟨?_, List.all_eq_true.mp hg w hw⟩
  rw [h] at hw
  obtain ⟨i, -, hi⟩ := List.mem_filterMap.mp hw
  exact List.mem_of_getElem? hi
set_option maxRecDepth 100000 in
theorem gz_uw8 : ∀ w ∈ u_ws RX8 TX8 9, w ∈ gz_U := by
  have h : (u_ws RX8 TX8 9) = ([362, 364, 366, 368, 370, 372, 374, 376, 378] : List Nat).filterMap (fun i => lw_tbl[i]?) := by decide +kernel
  have hg : (u_ws RX8 TX8 9).all goodWord = true := by decide +kernel
  intro w hw
  refine List.mem_filter.mpr ⟨?_, List.all_eq_true.mp hg w hw⟩
  rw [h] at hw
  obtain ⟨i, -, hi⟩ := List.mem_filterMap.mp hw
  exact List.mem_of_getElem? hi
set_option maxRecDepth 100000 in
theorem gz_uw9 : ∀ w ∈ u_ws RX9 TX9 5, w ∈ gz_U := by
  have h : (u_ws RX9 TX9 5) = ([160, 162, 164, 166, 168] : List Nat).filterMap (fun i => lw_tbl[i]?) := by decide +kernel
  have hg : (u_ws RX9 TX9 5).all goodWord = true := by decide +kernel
  intro w hw
  refine List.mem_filter.mpr ⟨?_, List.all_eq_true.mp hg w hw⟩
  rw [h] at hw
  obtain ⟨i, -, hi⟩ := List.mem_filterMap.mp hw
  exact List.mem_of_getElem? hi
set_option maxRecDepth 100000 in
theorem gz_uw10 : ∀ w ∈ u_ws RX10 TX10 5, w ∈ gz_U := by
  have h : (u_ws RX10 TX10 5) = ([270, 272, 274, 276, 278] : List Nat).filterMap (fun i => lw_tbl[i]?) := by decide +kernel
  have hg : (u_ws RX10 TX10 5).all goodWord = true := by decide +kernel
  intro w hw
  refine List.mem_filter.mpr ⟨?_, List.all_eq_true.mp hg w hw⟩
  rw [h] at hw
  obtain ⟨i, -, hi⟩ := List.mem_filterMap.mp hw
  exact List.mem_of_getElem? hi
set_option maxRecDepth 100000 in
theorem gz_uw11 : ∀ w ∈ u_ws RX11 TX11 18, w ∈ gz_U := by
  have h : (u_ws RX11 TX11 18) = ([399, 401, 403, 405, 407, 409, 411, 413, 415, 417, 419, 421, 423, 425, 427, 429, 431, 433] : List Nat).filterMap (fun i => lw_tbl[i]?) := by decide +kernel
  have hg : (u_ws RX11 TX11 18).all goodWord = true := by decide +kernel
  intro w hw
  refine List.mem_filter.mpr ⟨?_, List.all_eq_true.mp hg w hw⟩
  rw [h] at hw
  obtain ⟨i, -, hi⟩ := List.mem_filterMap.mp hw
  exact List.mem_of_getElem? hi
set_option maxRecDepth 100000 in
theorem gz_uw12 : ∀ w ∈ u_ws RX12 TX12 51, w ∈ gz_U := by
  have h : (u_ws RX12 TX12 51) = ([1326, 1328, 1330, 1332, 1334, 1336, 1338, 1340, 1342, 1344, 1346, 1348, 1350, 1352, 1354, 1356, 1358, 1360, 1362, 1364, 1366, 1368, 1370, 1372, 1374, 1376, 1378, 1380, 1382, 1384, 1386, 1388, 1390, 1392, 1394, 1396, 1398, 1400, 1402, 1404, 1406, 1408, 1410, 1412, 1414, 1416, 1418, 1420, 1422, 1424, 1426] : List Nat).filterMap (fun i => lw_tbl[i]?) := by decide +kernel
  have hg : (u_ws RX12 TX12 51).all goodWord = true := by decide +kernel
  intro w hw
  refine List.mem_filter.mpr ⟨?_, List.all_eq_true.mp hg w hw⟩
  rw [h] at hw
  obtain ⟨i, -, hi⟩ := List.mem_filterMap.mp hw
  exact List.mem_of_getElem? hi
theorem gz_uw {ci : Nat} (h : ci < 13) : ∀ w ∈ u_ws (gz_kR ci) (gz_kT ci) (gz_nf ci), w ∈ gz_U := by
  match ci, h with
  | 0, _ => exact gz_uw0
  | 1, _ => exact gz_uw1
  | 2, _ => exact gz_uw2
  | 3, _ => exact gz_uw3
  | 4, _ => exact gz_uw4
  | 5, _ => exact gz_uw5
  | 6, _ => exact gz_uw6
  | 7, _ => exact gz_uw7
  | 8, _ => exact gz_uw8
  | 9, _ => exact gz_uw9
  | 10, _ => exact gz_uw10
  | 11, _ => exact gz_uw11
  | 12, _ => exact gz_uw12
end
section
/-! the judgement gz_J: from pc, with these locals, stack and store, the method comes back with v and store g' so that Ph v g' -/
abbrev gz_M : Type := MethodName × ByteArray × Nat × Option FieldType
def gz_ws (M : gz_M) : List Cond := Cond.code M.1 M.2.1 M.2.2.1 M.2.2.2 :: gz_U
def gz_rm (h : Nat) : Room := { frames := h, cells := 0, slots := 0, locals := 64 * h }
def gz_cv (a : Nat → Nat) (v : Value) : Value := match v with
  | .ref j => .ref (a j)
  | w => w
def gz_kn (a : Nat → Nat) : Nat → List (Option Value) → List (Nat × Value)
  | _, [] => []
  | i, none :: t => gz_kn a (i + 1) t
  | i, some v :: t => (i, gz_cv a v) :: gz_kn a (i + 1) t
theorem gz_kn_mem {a : Nat → Nat} {i : Nat} {w : Value} : ∀ {ls : List (Option Value)} {n : Nat}, (i, w) ∈ gz_kn a n ls ↔ ∃ k v, i = n + k ∧ ls[k]? = some (some v) ∧ w = gz_cv a v := by
  intro ls
  induction ls with
  | nil => intro n; constructor
           · intro h; cases h
           · rintro ⟨k, v, -, h, -⟩; simp at h
  | cons x t ih =>
    intro n
    cases x with
    | none =>
      show (i, w) ∈ gz_kn a (n + 1) t ↔ _
      rw [ih]
      constructor
      · rintro ⟨k, v, h1, h2, h3⟩; exact ⟨k + 1, v, by omega, by simpa using h2, h3⟩
      · rintro ⟨k, v, h1, h2, h3⟩
        cases k with
        | zero => simp at h2
        | succ k => exact ⟨k, v, by omega, by simpa using h2, h3⟩
    | some u =>
      show (i, w) ∈ (n, gz_cv a u) :: gz_kn a (n + 1) t ↔ _
      rw [List.mem_cons, ih]
      constructor
      · rintro (h | ⟨k, v, h1, h2, h3⟩)
        · cases h; exact ⟨0, u, rfl, rfl, rfl⟩
        · exact ⟨k + 1, v, by omega, by simpa using h2, h3⟩
      · rintro ⟨k, v, h1, h2, h3⟩
        cases k with
        | zero => simp at h2; subst h2; left; rw [h1, h3]; rfl
        | succ k => right; exact ⟨k, v, by omega, by simpa using h2, h3⟩
def gz_has (a : Nat → Nat) (lsA : Array Slot) (nL : Nat) (ls : List (Option Value)) : Prop := lv_has lsA nL (gz_kn a 0 ls)
theorem gz_has.at {a : Nat → Nat} {lsA : Array Slot} {nL : Nat} {ls : List (Option Value)} (h : gz_has a lsA nL ls) {k : Nat} {v : Value} (hk : ls[k]? = some (some v)) : lsA[k]? = some (.val (gz_cv a v)) :=
  h.2.2 (k, gz_cv a v) (gz_kn_mem.mpr ⟨k, v, by omega, hk, rfl⟩)
theorem gz_cv_cat (a : Nat → Nat) (v : Value) : (gz_cv a v).category = v.category := by cases v <;> rfl
/-- the place below isn't the first half of a long -/
def gz_c1 (ls : List (Option Value)) (i : Nat) : Bool := match i with
  | 0 => true
  | k + 1 => match ls[k]? with
    | some (some v) => v.category == 1
    | _ => true
theorem gz_has.set1 {a : Nat → Nat} {lsA : Array Slot} {nL i : Nat} {v : Value} {ls : List (Option Value)} (hc : gz_c1 ls i = true)
    (h : lv_has lsA nL ((i, gz_cv a v) :: (gz_kn a 0 ls).filter (fun q => !(q.1 == i) && !(q.1 + 1 == i && q.2.category == 2)))) : gz_has a lsA nL (ls.set i (some v)) := by
  refine ⟨h.1, h.2.1, fun q hq => h.2.2 q ?_⟩
  obtain ⟨j, w⟩ := q
  obtain ⟨k, u, h1, h2, h3⟩ := gz_kn_mem.mp hq
  rw [List.getElem?_set] at h2
  by_cases hki : i = k
  · rw [if_pos hki] at h2
    by_cases hlt : i < ls.length
    · rw [if_pos hlt] at h2
      have hu : v = u := Option.some.inj (Option.some.inj h2)
      rw [h3, ← hu, h1, ← hki, Nat.zero_add]
      exact List.mem_cons_self
    · rw [if_neg hlt] at h2; cases h2
  · rw [if_neg hki] at h2
    refine List.mem_cons_of_mem _ (List.mem_filter.mpr ⟨gz_kn_mem.mpr ⟨k, u, h1, h2, h3⟩, ?_⟩)
    have e1 : (j == i) = false := by simp; omega
    rw [h3, gz_cv_cat]
    by_cases hj : j + 1 = i
    · have : i = k + 1 := by omega
      subst this
      unfold gz_c1 at hc
      simp only [h2] at hc
      have hcat : u.category = 1 := by simpa using hc
      simp [hcat, e1]
    · have e2 : (j + 1 == i) = false := by simp; omega
      simp [e1, e2]
theorem gz_has.set2 {a : Nat → Nat} {lsA : Array Slot} {nL i : Nat} {v : Value} {ls : List (Option Value)} (hc : gz_c1 ls i = true)
    (h : lv_has lsA nL ((i, gz_cv a v) :: (gz_kn a 0 ls).filter (fun q => !(q.1 == i) && (!(q.1 == i + 1) && !(q.1 + 1 == i && q.2.category == 2))))) : gz_has a lsA nL ((ls.set (i + 1) none).set i (some v)) := by
  refine ⟨h.1, h.2.1, fun q hq => h.2.2 q ?_⟩
  obtain ⟨j, w⟩ := q
  obtain ⟨k, u, h1, h2, h3⟩ := gz_kn_mem.mp hq
  rw [List.getElem?_set] at h2
  by_cases hki : i = k
  · rw [if_pos hki] at h2
    by_cases hlt : i < (ls.set (i + 1) none).length
    · rw [if_pos hlt] at h2
      have hu : v = u := Option.some.inj (Option.some.inj h2)
      rw [h3, ← hu, h1, ← hki, Nat.zero_add]
      exact List.mem_cons_self
    · rw [if_neg hlt] at h2; cases h2
  · rw [if_neg hki, List.getElem?_set] at h2
    by_cases hk2 : i + 1 = k
    · rw [if_pos hk2] at h2
      by_cases hl2 : i + 1 < ls.length
      · rw [if_pos hl2] at h2; cases h2
      · rw [if_neg hl2] at h2; cases h2
    · rw [if_neg hk2] at h2
      refine List.mem_cons_of_mem _ (List.mem_filter.mpr ⟨gz_kn_mem.mpr ⟨k, u, h1, h2, h3⟩, ?_⟩)
      have e1 : (j == i) = false := by simp; omega
      have e3 : (j == i + 1) = false := by simp; omega
      rw [h3, gz_cv_cat]
      by_cases hj : j + 1 = i
      · have : i = k + 1 := by omega
        subst this
        unfold gz_c1 at hc
        simp only [h2] at hc
        have hcat : u.category = 1 := by simpa using hc
        simp [hcat, e1, e3]
      · have e2 : (j + 1 == i) = false := by simp; omega
        simp [e1, e2, e3]
/-- what is known of less locals -/
def gz_sub (l' l : List (Option Value)) : Prop := ∀ (k : Nat) (v : Value), l'[k]? = some (some v) → l[k]? = some (some v)
theorem gz_sub0 : gz_sub [] [] := fun _ _ h => h
theorem gz_subk {x : Option Value} {l' l : List (Option Value)} (h : gz_sub l' l) : gz_sub (x :: l') (x :: l) := fun k v hk => by
  cases k with
  | zero => exact hk
  | succ k => exact h k v (by simpa using hk)
theorem gz_subn {x : Option Value} {l' l : List (Option Value)} (h : gz_sub l' l) : gz_sub (none :: l') (x :: l) := fun k v hk => by
  cases k with
  | zero => simp at hk
  | succ k => exact h k v (by simpa using hk)
theorem gz_has.sub {a : Nat → Nat} {lsA : Array Slot} {nL : Nat} {l' l : List (Option Value)} (h : gz_has a lsA nL l) (hs : gz_sub l' l) : gz_has a lsA nL l' := by
  refine ⟨h.1, h.2.1, fun q hq => ?_⟩
  obtain ⟨j, w⟩ := q
  obtain ⟨k, u, h1, h2, h3⟩ := gz_kn_mem.mp hq
  exact h.2.2 (j, w) (gz_kn_mem.mpr ⟨k, u, h1, hs k u h2, h3⟩)
/-- tables that nobody writes, by their cells' numbers -/
def gz_t0 (i : Nat) : Int32 := ([119, 2, 6, 5, 104, 2, 5, 4, 116, 0, 5, 0, 99, 0, 99, 20] : List Int32).getD i 0
def gz_t1 (i : Nat) : Int32 := ([120, 0, 5, 0, 121, 0, 4, 0, 98, 0, 3, 1, 112, 1, 4, 1] : List Int32).getD i 0
def gz_t2 (i : Nat) : Int32 := ([98, 97, 114, 112, 110, 116] : List Int32).getD i 0
def gz_sl : List Nat := [1, 6, 4, 4, 4]
def gz_sb : List (List Int32) := [[121], [98, 97, 114, 112, 110, 116], [119, 104, 116, 99], [120, 121, 98, 112], [104, 103, 116, 115]]
def gz_RS (a : Nat → Nat) (U : State) : Prop := vk_R "PrintsGoOnModel" 259 "whtc" (a 212) U ∧ vk_R "PrintsGoOnModel" 268 "xybp" (a 213) U ∧ vk_R "PrintsGoOnModel" 276 "hgts" (a 214) U ∧ vk_R "PrintsGoOnModel" 26 "y" (a 210) U ∧ vk_R "PrintsGoOnModel" 32 "barpnt" (a 211) U
/-- what lies about and is never written: three tables, five texts, statics of the JDK -/
def gz_RO (a : Nat → Nat) (A : Nat → Prop) (U : State) (H : Heap) : Prop :=
  ((va_Z "PrintsGoOn$ShoreReader" "RULE_ITEMS" "[I" (.ref (a 200)) A U H ∧ va_T .int (a 200) 16 (fun j => .int (gz_t0 j)) A U H) ∧
  (va_Z "PrintsGoOn$ShoreReader" "GOER_ITEMS" "[I" (.ref (a 201)) A U H ∧ va_T .int (a 201) 16 (fun j => .int (gz_t1 j)) A U H) ∧
  (va_Z "PrintsGoOn$Law" "LETTER_SIGNS" "[C" (.ref (a 202)) A U H ∧ va_T .char (a 202) 6 (fun j => .int (gz_t2 j)) A U H)) ∧
  vk_S 5 gz_sl gz_sb (fun i => a (210 + i)) (fun i => a (220 + i)) A U H ∧
  va_Z "java/lang/String" "COMPACT_STRINGS" "Z" (.int 1) A U H ∧
  (va_Z "jdk/internal/util/Preconditions" "SIOOBE_FORMATTER" "Ljava/util/function/BiFunction;" .null A U H ∨ va_Z "jdk/internal/util/Preconditions" "SIOOBE_FORMATTER" "Ljava/util/function/BiFunction;" (.ref (a 230)) A U H) ∧
  gz_RS a U
theorem gz_RO.moved1 {a : Nat → Nat} {A : Nat → Prop} {u U : State} {H : Heap} (hvm : u.vm.Alike U.vm) (hR : gz_RS a U) (h : gz_RO a A u H) : gz_RO a A U H :=
  ⟨⟨⟨h.1.1.1.moved hvm, h.1.1.2.moved hvm⟩, ⟨h.1.2.1.1.moved hvm, h.1.2.1.2.moved hvm⟩, ⟨h.1.2.2.1.moved hvm, h.1.2.2.2.moved hvm⟩⟩, h.2.1.moved hvm, h.2.2.1.moved hvm, h.2.2.2.1.elim (fun z => Or.inl (z.moved hvm)) (fun z => Or.inr (z.moved hvm)), hR⟩
theorem gz_RO.same {a : Nat → Nat} {A : Nat → Prop} {u U : State} {H : Heap} (hv : U.vm = u.vm) (h : gz_RO a A u H) : gz_RO a A U H :=
  gz_RO.moved1 (by rw [hv]; exact Vm.Alike.refl u.vm) ⟨vk_R.same hv h.2.2.2.2.1, vk_R.same hv h.2.2.2.2.2.1, vk_R.same hv h.2.2.2.2.2.2.1, vk_R.same hv h.2.2.2.2.2.2.2.1, vk_R.same hv h.2.2.2.2.2.2.2.2⟩ h
theorem gz_RO.warm {a : Nat → Nat} {A : Nat → Prop} {u U : State} {H : Heap} (hW : u.WarmedH U.vm) (h : gz_RO a A u H) : gz_RO a A U H :=
  gz_RO.moved1 hW.alike ⟨vk_R.warm hW h.2.2.2.2.1, vk_R.warm hW h.2.2.2.2.2.1, vk_R.warm hW h.2.2.2.2.2.2.1, vk_R.warm hW h.2.2.2.2.2.2.2.1, vk_R.warm hW h.2.2.2.2.2.2.2.2⟩ h
theorem gz_RO.kept {a : Nat → Nat} {A : Nat → Prop} {U : State} {H H1 : Heap} (h : gz_RO a A U H) (hq : ∀ a : Nat, a < H.size → ¬ A a → H1[a]? = H[a]?) : gz_RO a A U H1 :=
  ⟨⟨⟨h.1.1.1.kept hq, h.1.1.2.kept hq⟩, ⟨h.1.2.1.1.kept hq, h.1.2.1.2.kept hq⟩, ⟨h.1.2.2.1.kept hq, h.1.2.2.2.kept hq⟩⟩, h.2.1.kept hq, h.2.2.1.kept hq, h.2.2.2.1.elim (fun z => Or.inl (z.kept hq)) (fun z => Or.inr (z.kept hq)), h.2.2.2.2⟩
theorem gz_RO.narrow {a : Nat → Nat} {A B : Nat → Prop} {U : State} {H : Heap} (h : gz_RO a A U H) (hAB : ∀ q, B q → A q) : gz_RO a B U H :=
  ⟨⟨⟨h.1.1.1.narrow hAB, h.1.1.2.narrow hAB⟩, ⟨h.1.2.1.1.narrow hAB, h.1.2.1.2.narrow hAB⟩, ⟨h.1.2.2.1.narrow hAB, h.1.2.2.2.narrow hAB⟩⟩, h.2.1.narrow hAB, h.2.2.1.narrow hAB, h.2.2.2.1.elim (fun z => Or.inl (z.narrow hAB)) (fun z => Or.inr (z.narrow hAB)), h.2.2.2.2⟩
def gz_Q (La : gz_L) (D : va_G) (cs : Nat → ClassId) (a : Nat → Nat) (A : Nat → Prop) (Ph : Option Value → gz_S → Prop) : Array Value → State → Outcome → State → Prop := fun _ st oc t =>
  (∃ (v : Option Value) (g : gz_S), oc = .returned (v.map (gz_cv a)) ∧ Ph v g ∧ va_P D vwCl (gz_w cs La a g) t.heap ∧ va_K D vwCl (gz_ty cs) t ∧ va_D A (gz_w cs La a g)) ∧ va_F A st t
def gz_C (M : gz_M) (p : Program) (s : State) (m : MethodId) (args : Array Value) (meth : Method) (c : Code) (D : va_G) (cs : Nat → ClassId) (a : Nat → Nat) (A : Nat → Prop) : Prop :=
  p.tables.exec = Jvm.exec ∧ c.code = M.2.1 ∧ c.maxLocals = M.2.2.1 ∧ meth.sig.returnType = M.2.2.2 ∧ meth.locks = false ∧ s.vm.findClass M.1.cls = some m.cls ∧ (∀ w ∈ gz_ws M, w.before args s = true) ∧ va_K D vwCl (gz_ty cs) s ∧ gz_RO a A s s.heap ∧ ∀ q : Nat, s.heap.size ≤ q → A q
def gz_J (La : gz_L) (h : Nat) (M : gz_M) (pc : Nat) (ls : List (Option Value)) (st : List Value) (g : gz_S) (Ph : Option Value → gz_S → Prop) : Prop :=
  ∀ (p : Program) (l : Launch) (e : Env) (s : State) (m : MethodId) (args : Array Value) (below : List Frame) (meth : Method) (c : Code) (D : va_G) (cs : Nat → ClassId) (a : Nat → Nat) (A : Nat → Prop) (H : Heap) (locs : List Loc) (lsA : Array Slot),
    gz_C M p s m args meth c D cs a A → va_P D vwCl (gz_w cs La a g) H → va_D A (gz_w cs La a g) → va_S A s.heap H locs → gz_has a lsA M.2.2.1 ls →
    W p l e (gz_rm h) s m args below meth c H locs 0 0 (MQ below (gz_Q La D cs a A Ph) args s 0 0 A) (F0 m pc lsA (st.map (gz_cv a)))
/-- a method's contract -/
def gz_K (La : gz_L) (h : Nat) (M : gz_M) (av : List Value) (g : gz_S) (Ph : Option Value → gz_S → Prop) : Prop :=
  ∀ (l : Launch) (D : va_G) (cs : Nat → ClassId) (a : Nat → Nat) (sz : Nat),
    Met l M.1 (gz_ws M) (gz_rm h) (va_Pc (av.map (gz_cv a)) (fun U => U.heap.size = sz ∧ va_P D vwCl (gz_w cs La a g) U.heap ∧ va_K D vwCl (gz_ty cs) U ∧ va_D (fun _ => True) (gz_w cs La a g) ∧ gz_RO a (va_A (gz_w cs La a g) sz) U U.heap))
      (gz_Q La D cs a (va_A (gz_w cs La a g) sz) Ph) 0 0 (va_A (gz_w cs La a g) sz)
/-- the locals at a method's start -/
def gz_en : List Value → List (Option Value)
  | [] => []
  | v :: t => if v.category = 2 then some v :: none :: gz_en t else some v :: gz_en t
theorem gz_en_has {a : Nat → Nat} : ∀ {av : List Value} {i : Nat} {q : Nat × Value}, q ∈ gz_kn a i (gz_en av) → q ∈ lv_args i (av.map (gz_cv a)) := by
  intro av
  induction av with
  | nil => intro i q h; exact h
  | cons v t ih =>
    intro i q h
    show q ∈ (i, gz_cv a v) :: lv_args (if (gz_cv a v).category = 2 then i + 2 else i + 1) (t.map (gz_cv a))
    rw [gz_cv_cat]
    unfold gz_en at h
    by_cases hc : v.category = 2
    · rw [if_pos hc] at h ⊢
      rcases List.mem_cons.mp h with h | h
      · rw [h]; exact List.mem_cons_self
      · exact List.mem_cons_of_mem _ (ih h)
    · rw [if_neg hc] at h ⊢
      rcases List.mem_cons.mp h with h | h
      · rw [h]; exact List.mem_cons_self
      · exact List.mem_cons_of_mem _ (ih h)
theorem gz_kn_app {a : Nat → Nat} {n : Nat} : ∀ {ls : List (Option Value)} {i : Nat}, gz_kn a i (ls ++ List.replicate n none) = gz_kn a i ls := by
  intro ls
  induction ls with
  | nil =>
    intro i
    show gz_kn a i (List.replicate n none) = []
    induction n generalizing i with
    | zero => rfl
    | succ n ih => exact ih
  | cons x t ih =>
    intro i
    cases x with
    | none => exact ih
    | some v => show (i, gz_cv a v) :: gz_kn a (i + 1) (t ++ _) = (i, gz_cv a v) :: gz_kn a (i + 1) t; rw [ih]
theorem gz_lgsl {a : Nat → Nat} (av : List Value) : (lg_sl (av.map (gz_cv a))).length = (gz_en av).length := by
  induction av with
  | nil => rfl
  | cons v t ih =>
    show ((if (gz_cv a v).category = 2 then [Slot.val (gz_cv a v), .second] else [.val (gz_cv a v)]) ++ lg_sl (t.map (gz_cv a))).length = _
    rw [gz_cv_cat]
    unfold gz_en
    by_cases hc : v.category = 2
    · rw [if_pos hc, if_pos hc]; simp [ih]
    · rw [if_neg hc, if_neg hc]; simp [ih]
theorem gz_K.of {La : gz_L} {h : Nat} {M : gz_M} {av : List Value} {g : gz_S} {Ph : Option Value → gz_S → Prop} (n : Nat) (hp : plainName M.1.cls = true) (hn : (gz_en av).length + n = M.2.2.1)
    (k : gz_J La h M 0 (gz_en av ++ List.replicate n none) [] g Ph) : gz_K La h M av g Ph := by
  intro l D cs a sz
  refine Met.ofW (cc := M.2.1) (maxL := M.2.2.1) (ret := M.2.2.2) hp rfl ?_
  intro p e s m args below meth c s₁ B hml hv
  obtain ⟨rfl, hsz, hP, hK, hD0, hR⟩ := hv
  subst hsz
  have hx := B.exec
  have hb := B.bytes
  have hr := B.returns
  have hts := atoms_spec (ws := gz_ws M) B.pre
  have hown : s.vm.findClass M.1.cls = some m.cls := findClass_of_methodNamed B.named
  have hlocks := B.notSynchronized
  have hl := lv_entry (av.map (gz_cv a)) (n := M.2.2.1) (by rw [gz_lgsl]; omega)
  rw [lg_entry_eq]
  exact k p l e s m _ below meth c D cs a _ s.heap [] _ ⟨hx, hb, hml, hr, hlocks, hown, hts, hK, hR, fun q hq => Or.inr hq⟩ hP (hD0.self) va_S.rf
    ⟨hl.1, hl.2.1, fun q hq => hl.2.2 q (gz_en_has (by rw [gz_kn_app] at hq; exact hq))⟩
end
section
/-! rows: one an instruction -/
section SZ
variable {La : gz_L} {h : Nat} {M : gz_M} {pc : Nat} {ls : List (Option Value)} {st : List Value} {g : gz_S} {Ph : Option Value → gz_S → Prop}
theorem sz_weak {l2 : List (Option Value)} (hs : gz_sub l2 ls) (n : gz_J La h M pc l2 st g Ph) : gz_J La h M pc ls st g Ph := by
  intro p l e s m args below meth c D cs a A H locs lsA C hP hD hS hl
  exact (n p l e s m args below meth c D cs a A H locs lsA C hP hD hS (hl.sub hs))
theorem sz_iconst {n0 : Int} {v : Int32} (hd : decode M.2.1 pc = .ok (.iconst n0, 1)) (hv : Int32.ofInt n0 = v) (n : gz_J La h M (pc + 1) ls (.int v :: st) g Ph) : gz_J La h M pc ls st g Ph := by
  intro p l e s m args below meth c D cs a A H locs lsA C hP hD hS hl
  exact lv_iconst C.1 C.2.1 hd hv (n p l e s m args below meth c D cs a A H locs lsA C hP hD hS hl)
theorem sz_bipush {n0 : Int} {v : Int32} (hd : decode M.2.1 pc = .ok (.bipush n0, 2)) (hv : (Int8.ofInt n0).toInt32 = v) (n : gz_J La h M (pc + 2) ls (.int v :: st) g Ph) : gz_J La h M pc ls st g Ph := by
  intro p l e s m args below meth c D cs a A H locs lsA C hP hD hS hl
  exact lv_bipush C.1 C.2.1 hd hv (n p l e s m args below meth c D cs a A H locs lsA C hP hD hS hl)
theorem sz_sipush {n0 : Int} {v : Int32} (hd : decode M.2.1 pc = .ok (.sipush n0, 3)) (hv : (Int16.ofInt n0).toInt32 = v) (n : gz_J La h M (pc + 3) ls (.int v :: st) g Ph) : gz_J La h M pc ls st g Ph := by
  intro p l e s m args below meth c D cs a A H locs lsA C hP hD hS hl
  exact lv_sipush C.1 C.2.1 hd hv (n p l e s m args below meth c D cs a A H locs lsA C hP hD hS hl)
theorem sz_lconst {n0 : Fin 2} {v : Int64} (hd : decode M.2.1 pc = .ok (.lconst n0, 1)) (hv : Int64.ofNat (n0 : Nat) = v) (n : gz_J La h M (pc + 1) ls (.long v :: st) g Ph) : gz_J La h M pc ls st g Ph := by
  intro p l e s m args below meth c D cs a A H locs lsA C hP hD hS hl
  exact lv_lconst C.1 C.2.1 hd hv (n p l e s m args below meth c D cs a A H locs lsA C hP hD hS hl)
theorem sz_null (hd : decode M.2.1 pc = .ok (.aconst_null, 1)) (n : gz_J La h M (pc + 1) ls (.null :: st) g Ph) : gz_J La h M pc ls st g Ph := by
  intro p l e s m args below meth c D cs a A H locs lsA C hP hD hS hl
  exact lv_null C.1 C.2.1 hd (n p l e s m args below meth c D cs a A H locs lsA C hP hD hS hl)
theorem sz_ldc {ix : Nat} {v : Int32} (hd : decode M.2.1 pc = .ok (.ldc ix, 2)) (hw : Cond.constant M.1.cls ix v ∈ gz_U) (n : gz_J La h M (pc + 2) ls (.int v :: st) g Ph) : gz_J La h M pc ls st g Ph := by
  intro p l e s m args below meth c D cs a A H locs lsA C hP hD hS hl
  exact lv_ldc C.1 C.2.1 C.2.2.2.2.2.1 (C.2.2.2.2.2.2.1 _ (List.mem_cons_of_mem _ hw)) hd (n p l e s m args below meth c D cs a A H locs lsA C hP hD hS hl)
theorem sz_ldcw {ix : Nat} {v : Int32} (hd : decode M.2.1 pc = .ok (.ldc_w ix, 3)) (hw : Cond.constant M.1.cls ix v ∈ gz_U) (n : gz_J La h M (pc + 3) ls (.int v :: st) g Ph) : gz_J La h M pc ls st g Ph := by
  intro p l e s m args below meth c D cs a A H locs lsA C hP hD hS hl
  exact lv_ldcw C.1 C.2.1 C.2.2.2.2.2.1 (C.2.2.2.2.2.2.1 _ (List.mem_cons_of_mem _ hw)) hd (n p l e s m args below meth c D cs a A H locs lsA C hP hD hS hl)
theorem sz_ldc2 {ix : Nat} {v : Int64} (hd : decode M.2.1 pc = .ok (.ldc2_w ix, 3)) (hw : Cond.constantLong M.1.cls ix v ∈ gz_U) (n : gz_J La h M (pc + 3) ls (.long v :: st) g Ph) : gz_J La h M pc ls st g Ph := by
  intro p l e s m args below meth c D cs a A H locs lsA C hP hD hS hl
  exact lv_ldc2 C.1 C.2.1 C.2.2.2.2.2.1 (C.2.2.2.2.2.2.1 _ (List.mem_cons_of_mem _ hw)) hd (n p l e s m args below meth c D cs a A H locs lsA C hP hD hS hl)
theorem sz_iload_n {k : Fin 4} {x : Int32} (hd : decode M.2.1 pc = .ok (.iload_n k, 1)) (hv : ls[(k : Nat)]? = some (some (.int x))) (n : gz_J La h M (pc + 1) ls (.int x :: st) g Ph) : gz_J La h M pc ls st g Ph := by
  intro p l e s m args below meth c D cs a A H locs lsA C hP hD hS hl
  exact lv_iload_n C.1 C.2.1 hd rfl (hl.at hv) (n p l e s m args below meth c D cs a A H locs lsA C hP hD hS hl)
theorem sz_iload {k : Nat} {x : Int32} (hd : decode M.2.1 pc = .ok (.iload k, 2)) (hv : ls[k]? = some (some (.int x))) (n : gz_J La h M (pc + 2) ls (.int x :: st) g Ph) : gz_J La h M pc ls st g Ph := by
  intro p l e s m args below meth c D cs a A H locs lsA C hP hD hS hl
  exact lv_iload C.1 C.2.1 hd (hl.at hv) (n p l e s m args below meth c D cs a A H locs lsA C hP hD hS hl)
theorem sz_istore_n {k : Nat} {kf : Fin 4} {x : Int32} (hd : decode M.2.1 pc = .ok (.istore_n kf, 1)) (hk : (kf : Nat) = k) (hn : k < M.2.2.1) (hc : gz_c1 ls k = true) (n : gz_J La h M (pc + 1) (ls.set k (some (.int x))) st g Ph) : gz_J La h M pc ls (.int x :: st) g Ph := by
  intro p l e s m args below meth c D cs a A H locs lsA C hP hD hS hl
  exact lv_istore_n C.1 C.2.1 hd hk hl hn rfl (fun lsA hl => (n p l e s m args below meth c D cs a A H locs lsA C hP hD hS (gz_has.set1 (v := .int x) hc hl)))
theorem sz_istore {k : Nat} {x : Int32} (hd : decode M.2.1 pc = .ok (.istore k, 2)) (hn : k < M.2.2.1) (hc : gz_c1 ls k = true) (n : gz_J La h M (pc + 2) (ls.set k (some (.int x))) st g Ph) : gz_J La h M pc ls (.int x :: st) g Ph := by
  intro p l e s m args below meth c D cs a A H locs lsA C hP hD hS hl
  exact lv_istore C.1 C.2.1 hd hl hn rfl (fun lsA hl => (n p l e s m args below meth c D cs a A H locs lsA C hP hD hS (gz_has.set1 (v := .int x) hc hl)))
theorem sz_lload_n {k : Fin 4} {x : Int64} (hd : decode M.2.1 pc = .ok (.lload_n k, 1)) (hv : ls[(k : Nat)]? = some (some (.long x))) (n : gz_J La h M (pc + 1) ls (.long x :: st) g Ph) : gz_J La h M pc ls st g Ph := by
  intro p l e s m args below meth c D cs a A H locs lsA C hP hD hS hl
  exact lv_lload_n C.1 C.2.1 hd rfl (hl.at hv) (n p l e s m args below meth c D cs a A H locs lsA C hP hD hS hl)
theorem sz_lload {k : Nat} {x : Int64} (hd : decode M.2.1 pc = .ok (.lload k, 2)) (hv : ls[k]? = some (some (.long x))) (n : gz_J La h M (pc + 2) ls (.long x :: st) g Ph) : gz_J La h M pc ls st g Ph := by
  intro p l e s m args below meth c D cs a A H locs lsA C hP hD hS hl
  exact lv_lload C.1 C.2.1 hd (hl.at hv) (n p l e s m args below meth c D cs a A H locs lsA C hP hD hS hl)
theorem sz_lstore_n {k : Nat} {kf : Fin 4} {x : Int64} (hd : decode M.2.1 pc = .ok (.lstore_n kf, 1)) (hk : (kf : Nat) = k) (hn : k + 1 < M.2.2.1) (hc : gz_c1 ls k = true) (n : gz_J La h M (pc + 1) ((ls.set (k + 1) none).set k (some (.long x))) st g Ph) : gz_J La h M pc ls (.long x :: st) g Ph := by
  intro p l e s m args below meth c D cs a A H locs lsA C hP hD hS hl
  exact lv_lstore_n C.1 C.2.1 hd hk hl hn rfl (fun lsA hl => (n p l e s m args below meth c D cs a A H locs lsA C hP hD hS (gz_has.set2 (v := .long x) hc hl)))
theorem sz_lstore {k : Nat} {x : Int64} (hd : decode M.2.1 pc = .ok (.lstore k, 2)) (hn : k + 1 < M.2.2.1) (hc : gz_c1 ls k = true) (n : gz_J La h M (pc + 2) ((ls.set (k + 1) none).set k (some (.long x))) st g Ph) : gz_J La h M pc ls (.long x :: st) g Ph := by
  intro p l e s m args below meth c D cs a A H locs lsA C hP hD hS hl
  exact lv_lstore C.1 C.2.1 hd hl hn rfl (fun lsA hl => (n p l e s m args below meth c D cs a A H locs lsA C hP hD hS (gz_has.set2 (v := .long x) hc hl)))
theorem sz_aload_n {k : Fin 4} {x : Nat} (hd : decode M.2.1 pc = .ok (.aload_n k, 1)) (hv : ls[(k : Nat)]? = some (some (.ref x))) (n : gz_J La h M (pc + 1) ls (.ref x :: st) g Ph) : gz_J La h M pc ls st g Ph := by
  intro p l e s m args below meth c D cs a A H locs lsA C hP hD hS hl
  exact lv_aload_n C.1 C.2.1 hd rfl (hl.at hv) (n p l e s m args below meth c D cs a A H locs lsA C hP hD hS hl)
theorem sz_aload {k : Nat} {x : Nat} (hd : decode M.2.1 pc = .ok (.aload k, 2)) (hv : ls[k]? = some (some (.ref x))) (n : gz_J La h M (pc + 2) ls (.ref x :: st) g Ph) : gz_J La h M pc ls st g Ph := by
  intro p l e s m args below meth c D cs a A H locs lsA C hP hD hS hl
  exact lv_aload C.1 C.2.1 hd (hl.at hv) (n p l e s m args below meth c D cs a A H locs lsA C hP hD hS hl)
theorem sz_astore_n {k : Nat} {kf : Fin 4} {x : Nat} (hd : decode M.2.1 pc = .ok (.astore_n kf, 1)) (hk : (kf : Nat) = k) (hn : k < M.2.2.1) (hc : gz_c1 ls k = true) (n : gz_J La h M (pc + 1) (ls.set k (some (.ref x))) st g Ph) : gz_J La h M pc ls (.ref x :: st) g Ph := by
  intro p l e s m args below meth c D cs a A H locs lsA C hP hD hS hl
  exact lv_astore_n C.1 C.2.1 hd hk hl hn rfl (fun lsA hl => (n p l e s m args below meth c D cs a A H locs lsA C hP hD hS (gz_has.set1 (v := .ref x) hc hl)))
theorem sz_astore {k : Nat} {x : Nat} (hd : decode M.2.1 pc = .ok (.astore k, 2)) (hn : k < M.2.2.1) (hc : gz_c1 ls k = true) (n : gz_J La h M (pc + 2) (ls.set k (some (.ref x))) st g Ph) : gz_J La h M pc ls (.ref x :: st) g Ph := by
  intro p l e s m args below meth c D cs a A H locs lsA C hP hD hS hl
  exact lv_astore C.1 C.2.1 hd hl hn rfl (fun lsA hl => (n p l e s m args below meth c D cs a A H locs lsA C hP hD hS (gz_has.set1 (v := .ref x) hc hl)))
theorem sz_aload_nN {k : Fin 4} (hd : decode M.2.1 pc = .ok (.aload_n k, 1)) (hv : ls[(k : Nat)]? = some (some .null)) (n : gz_J La h M (pc + 1) ls (.null :: st) g Ph) : gz_J La h M pc ls st g Ph := by
  intro p l e s m args below meth c D cs a A H locs lsA C hP hD hS hl
  exact lv_aload_nN C.1 C.2.1 hd rfl (hl.at hv) (n p l e s m args below meth c D cs a A H locs lsA C hP hD hS hl)
theorem sz_aloadN {k : Nat} (hd : decode M.2.1 pc = .ok (.aload k, 2)) (hv : ls[k]? = some (some .null)) (n : gz_J La h M (pc + 2) ls (.null :: st) g Ph) : gz_J La h M pc ls st g Ph := by
  intro p l e s m args below meth c D cs a A H locs lsA C hP hD hS hl
  exact lv_aloadN C.1 C.2.1 hd (hl.at hv) (n p l e s m args below meth c D cs a A H locs lsA C hP hD hS hl)
theorem sz_astore_nN {k : Nat} {kf : Fin 4} (hd : decode M.2.1 pc = .ok (.astore_n kf, 1)) (hk : (kf : Nat) = k) (hn : k < M.2.2.1) (hc : gz_c1 ls k = true) (n : gz_J La h M (pc + 1) (ls.set k (some .null)) st g Ph) : gz_J La h M pc ls (.null :: st) g Ph := by
  intro p l e s m args below meth c D cs a A H locs lsA C hP hD hS hl
  exact lv_astore_nN C.1 C.2.1 hd hk hl hn rfl (fun lsA hl => (n p l e s m args below meth c D cs a A H locs lsA C hP hD hS (gz_has.set1 (v := .null) hc hl)))
theorem sz_astoreN {k : Nat} (hd : decode M.2.1 pc = .ok (.astore k, 2)) (hn : k < M.2.2.1) (hc : gz_c1 ls k = true) (n : gz_J La h M (pc + 2) (ls.set k (some .null)) st g Ph) : gz_J La h M pc ls (.null :: st) g Ph := by
  intro p l e s m args below meth c D cs a A H locs lsA C hP hD hS hl
  exact lv_astoreN C.1 C.2.1 hd hl hn rfl (fun lsA hl => (n p l e s m args below meth c D cs a A H locs lsA C hP hD hS (gz_has.set1 (v := .null) hc hl)))
theorem gz_kn_get {a : Nat → Nat} {ls : List (Option Value)} {k : Nat} {v : Value} (hv : ls[k]? = some (some v)) : ∃ q : Nat, (gz_kn a 0 ls)[q]? = some (k, gz_cv a v) := List.getElem?_of_mem (gz_kn_mem.mpr ⟨k, v, by omega, hv, rfl⟩)
theorem sz_iinc {k : Nat} {n0 : Int} {x v : Int32} (hd : decode M.2.1 pc = .ok (.iinc k n0, 3)) (hv : ls[k]? = some (some (.int x))) (he : x + Int32.ofInt n0 = v) (hn : k < M.2.2.1) (hc : gz_c1 ls k = true) (n : gz_J La h M (pc + 3) (ls.set k (some (.int v))) st g Ph) : gz_J La h M pc ls st g Ph := by
  intro p l e s m args below meth c D cs a A H locs lsA C hP hD hS hl
  obtain ⟨q, hq⟩ := gz_kn_get (a := a) hv
  exact lv_iinc C.1 C.2.1 hd hl hq he hn rfl (fun lsA hl => (n p l e s m args below meth c D cs a A H locs lsA C hP hD hS (gz_has.set1 (v := .int v) hc hl)))
theorem sz_iadd {x y : Int32} (hd : decode M.2.1 pc = .ok (.iadd, 1)) (n : gz_J La h M (pc + 1) ls (.int (x + y) :: st) g Ph) : gz_J La h M pc ls (.int y :: .int x :: st) g Ph := by
  intro p l e s m args below meth c D cs a A H locs lsA C hP hD hS hl
  exact lv_iadd C.1 C.2.1 hd (n p l e s m args below meth c D cs a A H locs lsA C hP hD hS hl)
theorem sz_isub {x y : Int32} (hd : decode M.2.1 pc = .ok (.isub, 1)) (n : gz_J La h M (pc + 1) ls (.int (x - y) :: st) g Ph) : gz_J La h M pc ls (.int y :: .int x :: st) g Ph := by
  intro p l e s m args below meth c D cs a A H locs lsA C hP hD hS hl
  exact lv_isub C.1 C.2.1 hd (n p l e s m args below meth c D cs a A H locs lsA C hP hD hS hl)
theorem sz_imul {x y : Int32} (hd : decode M.2.1 pc = .ok (.imul, 1)) (n : gz_J La h M (pc + 1) ls (.int (x * y) :: st) g Ph) : gz_J La h M pc ls (.int y :: .int x :: st) g Ph := by
  intro p l e s m args below meth c D cs a A H locs lsA C hP hD hS hl
  exact lv_imul C.1 C.2.1 hd (n p l e s m args below meth c D cs a A H locs lsA C hP hD hS hl)
theorem sz_iand {x y : Int32} (hd : decode M.2.1 pc = .ok (.iand, 1)) (n : gz_J La h M (pc + 1) ls (.int (x &&& y) :: st) g Ph) : gz_J La h M pc ls (.int y :: .int x :: st) g Ph := by
  intro p l e s m args below meth c D cs a A H locs lsA C hP hD hS hl
  exact lv_iand C.1 C.2.1 hd (n p l e s m args below meth c D cs a A H locs lsA C hP hD hS hl)
theorem sz_ior {x y : Int32} (hd : decode M.2.1 pc = .ok (.ior, 1)) (n : gz_J La h M (pc + 1) ls (.int (x ||| y) :: st) g Ph) : gz_J La h M pc ls (.int y :: .int x :: st) g Ph := by
  intro p l e s m args below meth c D cs a A H locs lsA C hP hD hS hl
  exact lv_ior C.1 C.2.1 hd (n p l e s m args below meth c D cs a A H locs lsA C hP hD hS hl)
theorem sz_ixor {x y : Int32} (hd : decode M.2.1 pc = .ok (.ixor, 1)) (n : gz_J La h M (pc + 1) ls (.int (x ^^^ y) :: st) g Ph) : gz_J La h M pc ls (.int y :: .int x :: st) g Ph := by
  intro p l e s m args below meth c D cs a A H locs lsA C hP hD hS hl
  exact lv_ixor C.1 C.2.1 hd (n p l e s m args below meth c D cs a A H locs lsA C hP hD hS hl)
theorem sz_ishl {x y : Int32} (hd : decode M.2.1 pc = .ok (.ishl, 1)) (n : gz_J La h M (pc + 1) ls (.int (x <<< (y &&& 31)) :: st) g Ph) : gz_J La h M pc ls (.int y :: .int x :: st) g Ph := by
  intro p l e s m args below meth c D cs a A H locs lsA C hP hD hS hl
  exact lv_ishl C.1 C.2.1 hd (n p l e s m args below meth c D cs a A H locs lsA C hP hD hS hl)
theorem sz_ishr {x y : Int32} (hd : decode M.2.1 pc = .ok (.ishr, 1)) (n : gz_J La h M (pc + 1) ls (.int (x >>> (y &&& 31)) :: st) g Ph) : gz_J La h M pc ls (.int y :: .int x :: st) g Ph := by
  intro p l e s m args below meth c D cs a A H locs lsA C hP hD hS hl
  exact lv_ishr C.1 C.2.1 hd (n p l e s m args below meth c D cs a A H locs lsA C hP hD hS hl)
theorem sz_idiv {x y : Int32} (hd : decode M.2.1 pc = .ok (.idiv, 1)) (hne : ¬ y = 0) (n : gz_J La h M (pc + 1) ls (.int (x / y) :: st) g Ph) : gz_J La h M pc ls (.int y :: .int x :: st) g Ph := by
  intro p l e s m args below meth c D cs a A H locs lsA C hP hD hS hl
  exact lv_idiv C.1 C.2.1 hd hne (n p l e s m args below meth c D cs a A H locs lsA C hP hD hS hl)
theorem sz_irem {x y : Int32} (hd : decode M.2.1 pc = .ok (.irem, 1)) (hne : ¬ y = 0) (n : gz_J La h M (pc + 1) ls (.int (x - x / y * y) :: st) g Ph) : gz_J La h M pc ls (.int y :: .int x :: st) g Ph := by
  intro p l e s m args below meth c D cs a A H locs lsA C hP hD hS hl
  exact lv_irem C.1 C.2.1 hd hne (n p l e s m args below meth c D cs a A H locs lsA C hP hD hS hl)
theorem sz_ladd {x y : Int64} (hd : decode M.2.1 pc = .ok (.ladd, 1)) (n : gz_J La h M (pc + 1) ls (.long (x + y) :: st) g Ph) : gz_J La h M pc ls (.long y :: .long x :: st) g Ph := by
  intro p l e s m args below meth c D cs a A H locs lsA C hP hD hS hl
  exact lv_ladd C.1 C.2.1 hd (n p l e s m args below meth c D cs a A H locs lsA C hP hD hS hl)
theorem sz_lsub {x y : Int64} (hd : decode M.2.1 pc = .ok (.lsub, 1)) (n : gz_J La h M (pc + 1) ls (.long (x - y) :: st) g Ph) : gz_J La h M pc ls (.long y :: .long x :: st) g Ph := by
  intro p l e s m args below meth c D cs a A H locs lsA C hP hD hS hl
  exact lv_lsub C.1 C.2.1 hd (n p l e s m args below meth c D cs a A H locs lsA C hP hD hS hl)
theorem sz_lmul {x y : Int64} (hd : decode M.2.1 pc = .ok (.lmul, 1)) (n : gz_J La h M (pc + 1) ls (.long (x * y) :: st) g Ph) : gz_J La h M pc ls (.long y :: .long x :: st) g Ph := by
  intro p l e s m args below meth c D cs a A H locs lsA C hP hD hS hl
  exact lv_lmul C.1 C.2.1 hd (n p l e s m args below meth c D cs a A H locs lsA C hP hD hS hl)
theorem sz_land {x y : Int64} (hd : decode M.2.1 pc = .ok (.land, 1)) (n : gz_J La h M (pc + 1) ls (.long (x &&& y) :: st) g Ph) : gz_J La h M pc ls (.long y :: .long x :: st) g Ph := by
  intro p l e s m args below meth c D cs a A H locs lsA C hP hD hS hl
  exact lv_land C.1 C.2.1 hd (n p l e s m args below meth c D cs a A H locs lsA C hP hD hS hl)
theorem sz_lor {x y : Int64} (hd : decode M.2.1 pc = .ok (.lor, 1)) (n : gz_J La h M (pc + 1) ls (.long (x ||| y) :: st) g Ph) : gz_J La h M pc ls (.long y :: .long x :: st) g Ph := by
  intro p l e s m args below meth c D cs a A H locs lsA C hP hD hS hl
  exact lv_lor C.1 C.2.1 hd (n p l e s m args below meth c D cs a A H locs lsA C hP hD hS hl)
theorem sz_ldiv {x y : Int64} (hd : decode M.2.1 pc = .ok (.ldiv, 1)) (hne : ¬ y = 0) (n : gz_J La h M (pc + 1) ls (.long (x / y) :: st) g Ph) : gz_J La h M pc ls (.long y :: .long x :: st) g Ph := by
  intro p l e s m args below meth c D cs a A H locs lsA C hP hD hS hl
  exact lv_ldiv C.1 C.2.1 hd hne (n p l e s m args below meth c D cs a A H locs lsA C hP hD hS hl)
theorem sz_lrem {x y : Int64} (hd : decode M.2.1 pc = .ok (.lrem, 1)) (hne : ¬ y = 0) (n : gz_J La h M (pc + 1) ls (.long (x - x / y * y) :: st) g Ph) : gz_J La h M pc ls (.long y :: .long x :: st) g Ph := by
  intro p l e s m args below meth c D cs a A H locs lsA C hP hD hS hl
  exact lv_lrem C.1 C.2.1 hd hne (n p l e s m args below meth c D cs a A H locs lsA C hP hD hS hl)
def gz_ushr (x y : Int32) : Int32 := (x.toUInt32 >>> (y.toUInt32 &&& Int32.toUInt32 31)).toInt32
def gz_lushr (x : Int64) (y : Int32) : Int64 := (x.toUInt64 >>> (y.toInt64.toUInt64 &&& Int64.toUInt64 63)).toInt64
def gz_lshl (x : Int64) (y : Int32) : Int64 := x <<< (y.toInt64 &&& 63)
theorem sz_iushr {x y : Int32} (hd : decode M.2.1 pc = .ok (.iushr, 1)) (n : gz_J La h M (pc + 1) ls (.int (gz_ushr x y) :: st) g Ph) : gz_J La h M pc ls (.int y :: .int x :: st) g Ph := by
  intro p l e s m args below meth c D cs a A H locs lsA C hP hD hS hl
  exact lv_iushr C.1 C.2.1 hd rfl (n p l e s m args below meth c D cs a A H locs lsA C hP hD hS hl)
theorem sz_lushr {x : Int64} {y : Int32} (hd : decode M.2.1 pc = .ok (.lushr, 1)) (n : gz_J La h M (pc + 1) ls (.long (gz_lushr x y) :: st) g Ph) : gz_J La h M pc ls (.int y :: .long x :: st) g Ph := by
  intro p l e s m args below meth c D cs a A H locs lsA C hP hD hS hl
  exact lv_lushr C.1 C.2.1 hd rfl (n p l e s m args below meth c D cs a A H locs lsA C hP hD hS hl)
theorem sz_lshl {x : Int64} {y : Int32} (hd : decode M.2.1 pc = .ok (.lshl, 1)) (n : gz_J La h M (pc + 1) ls (.long (gz_lshl x y) :: st) g Ph) : gz_J La h M pc ls (.int y :: .long x :: st) g Ph := by
  intro p l e s m args below meth c D cs a A H locs lsA C hP hD hS hl
  exact lv_lshl C.1 C.2.1 hd rfl (n p l e s m args below meth c D cs a A H locs lsA C hP hD hS hl)
theorem sz_lcmp {x y : Int64} (hd : decode M.2.1 pc = .ok (.lcmp, 1)) (n : gz_J La h M (pc + 1) ls (.int (lg_cmp x y) :: st) g Ph) : gz_J La h M pc ls (.long y :: .long x :: st) g Ph := by
  intro p l e s m args below meth c D cs a A H locs lsA C hP hD hS hl
  exact W.lcmp C.1 C.2.1 hd (n p l e s m args below meth c D cs a A H locs lsA C hP hD hS hl)
theorem sz_i2l {x : Int32} (hd : decode M.2.1 pc = .ok (.i2l, 1)) (n : gz_J La h M (pc + 1) ls (.long x.toInt64 :: st) g Ph) : gz_J La h M pc ls (.int x :: st) g Ph := by
  intro p l e s m args below meth c D cs a A H locs lsA C hP hD hS hl
  exact lv_i2l C.1 C.2.1 hd rfl (n p l e s m args below meth c D cs a A H locs lsA C hP hD hS hl)
theorem sz_l2i {x : Int64} (hd : decode M.2.1 pc = .ok (.l2i, 1)) (n : gz_J La h M (pc + 1) ls (.int x.toInt32 :: st) g Ph) : gz_J La h M pc ls (.long x :: st) g Ph := by
  intro p l e s m args below meth c D cs a A H locs lsA C hP hD hS hl
  exact lv_l2i C.1 C.2.1 hd rfl (n p l e s m args below meth c D cs a A H locs lsA C hP hD hS hl)
theorem sz_i2b {x : Int32} (hd : decode M.2.1 pc = .ok (.i2b, 1)) (n : gz_J La h M (pc + 1) ls (.int x.toInt8.toInt32 :: st) g Ph) : gz_J La h M pc ls (.int x :: st) g Ph := by
  intro p l e s m args below meth c D cs a A H locs lsA C hP hD hS hl
  exact lv_i2b C.1 C.2.1 hd rfl (n p l e s m args below meth c D cs a A H locs lsA C hP hD hS hl)
theorem sz_dup {v : Value} (hd : decode M.2.1 pc = .ok (.dup, 1)) (hc : v.category = 1) (n : gz_J La h M (pc + 1) ls (v :: v :: st) g Ph) : gz_J La h M pc ls (v :: st) g Ph := by
  intro p l e s m args below meth c D cs a A H locs lsA C hP hD hS hl
  exact lv_dup C.1 C.2.1 hd ((gz_cv_cat a v).trans hc) (n p l e s m args below meth c D cs a A H locs lsA C hP hD hS hl)
theorem sz_dup2 {v u : Value} (hd : decode M.2.1 pc = .ok (.dup2, 1)) (hc : v.category = 1) (hc2 : u.category = 1) (n : gz_J La h M (pc + 1) ls (v :: u :: v :: u :: st) g Ph) : gz_J La h M pc ls (v :: u :: st) g Ph := by
  intro p l e s m args below meth c D cs a A H locs lsA C hP hD hS hl
  exact lv_dup2_11 C.1 C.2.1 hd ((gz_cv_cat a v).trans hc) ((gz_cv_cat a u).trans hc2) (n p l e s m args below meth c D cs a A H locs lsA C hP hD hS hl)
theorem sz_dup_x1 {v u : Value} (hd : decode M.2.1 pc = .ok (.dup_x1, 1)) (hc : v.category = 1) (hc2 : u.category = 1) (n : gz_J La h M (pc + 1) ls (v :: u :: v :: st) g Ph) : gz_J La h M pc ls (v :: u :: st) g Ph := by
  intro p l e s m args below meth c D cs a A H locs lsA C hP hD hS hl
  exact lv_dup_x1 C.1 C.2.1 hd ((gz_cv_cat a v).trans hc) ((gz_cv_cat a u).trans hc2) (n p l e s m args below meth c D cs a A H locs lsA C hP hD hS hl)
theorem sz_pop {v : Value} (hd : decode M.2.1 pc = .ok (.pop, 1)) (hc : v.category = 1) (n : gz_J La h M (pc + 1) ls st g Ph) : gz_J La h M pc ls (v :: st) g Ph := by
  intro p l e s m args below meth c D cs a A H locs lsA C hP hD hS hl
  exact lv_pop C.1 C.2.1 hd ((gz_cv_cat a v).trans hc) (n p l e s m args below meth c D cs a A H locs lsA C hP hD hS hl)
theorem sz_if_eq {x : Int32} {off : Int} (tgt : Nat) (hd : decode M.2.1 pc = .ok (.ifCond .eq off, 3)) (ht : (pc : Int) + off = (tgt : Int)) (kt : x = 0 → gz_J La h M tgt ls st g Ph) (kf : ¬ (x = 0) → gz_J La h M (pc + 3) ls st g Ph) : gz_J La h M pc ls (.int x :: st) g Ph := by
  intro p l e s m args below meth c D cs a A H locs lsA C hP hD hS hl
  exact lv_if_eq C.1 C.2.1 hd ht (fun z => (kt z p l e s m args below meth c D cs a A H locs lsA C hP hD hS hl)) (fun z => (kf z p l e s m args below meth c D cs a A H locs lsA C hP hD hS hl))
theorem sz_icmp_eq {x y : Int32} {off : Int} (tgt : Nat) (hd : decode M.2.1 pc = .ok (.if_icmp .eq off, 3)) (ht : (pc : Int) + off = (tgt : Int)) (kt : x = y → gz_J La h M tgt ls st g Ph) (kf : ¬ (x = y) → gz_J La h M (pc + 3) ls st g Ph) : gz_J La h M pc ls (.int y :: .int x :: st) g Ph := by
  intro p l e s m args below meth c D cs a A H locs lsA C hP hD hS hl
  exact lv_icmp_eq C.1 C.2.1 hd ht (fun z => (kt z p l e s m args below meth c D cs a A H locs lsA C hP hD hS hl)) (fun z => (kf z p l e s m args below meth c D cs a A H locs lsA C hP hD hS hl))
theorem sz_if_ne {x : Int32} {off : Int} (tgt : Nat) (hd : decode M.2.1 pc = .ok (.ifCond .ne off, 3)) (ht : (pc : Int) + off = (tgt : Int)) (kt : ¬ x = 0 → gz_J La h M tgt ls st g Ph) (kf : x = 0 → gz_J La h M (pc + 3) ls st g Ph) : gz_J La h M pc ls (.int x :: st) g Ph := by
  intro p l e s m args below meth c D cs a A H locs lsA C hP hD hS hl
  exact lv_if_ne C.1 C.2.1 hd ht (fun z => (kt z p l e s m args below meth c D cs a A H locs lsA C hP hD hS hl)) (fun z => (kf z p l e s m args below meth c D cs a A H locs lsA C hP hD hS hl))
theorem sz_icmp_ne {x y : Int32} {off : Int} (tgt : Nat) (hd : decode M.2.1 pc = .ok (.if_icmp .ne off, 3)) (ht : (pc : Int) + off = (tgt : Int)) (kt : ¬ x = y → gz_J La h M tgt ls st g Ph) (kf : x = y → gz_J La h M (pc + 3) ls st g Ph) : gz_J La h M pc ls (.int y :: .int x :: st) g Ph := by
  intro p l e s m args below meth c D cs a A H locs lsA C hP hD hS hl
  exact lv_icmp_ne C.1 C.2.1 hd ht (fun z => (kt z p l e s m args below meth c D cs a A H locs lsA C hP hD hS hl)) (fun z => (kf z p l e s m args below meth c D cs a A H locs lsA C hP hD hS hl))
theorem sz_if_lt {x : Int32} {off : Int} (tgt : Nat) (hd : decode M.2.1 pc = .ok (.ifCond .lt off, 3)) (ht : (pc : Int) + off = (tgt : Int)) (kt : x < 0 → gz_J La h M tgt ls st g Ph) (kf : ¬ (x < 0) → gz_J La h M (pc + 3) ls st g Ph) : gz_J La h M pc ls (.int x :: st) g Ph := by
  intro p l e s m args below meth c D cs a A H locs lsA C hP hD hS hl
  exact lv_if_lt C.1 C.2.1 hd ht (fun z => (kt z p l e s m args below meth c D cs a A H locs lsA C hP hD hS hl)) (fun z => (kf z p l e s m args below meth c D cs a A H locs lsA C hP hD hS hl))
theorem sz_icmp_lt {x y : Int32} {off : Int} (tgt : Nat) (hd : decode M.2.1 pc = .ok (.if_icmp .lt off, 3)) (ht : (pc : Int) + off = (tgt : Int)) (kt : x < y → gz_J La h M tgt ls st g Ph) (kf : ¬ (x < y) → gz_J La h M (pc + 3) ls st g Ph) : gz_J La h M pc ls (.int y :: .int x :: st) g Ph := by
  intro p l e s m args below meth c D cs a A H locs lsA C hP hD hS hl
  exact lv_icmp_lt C.1 C.2.1 hd ht (fun z => (kt z p l e s m args below meth c D cs a A H locs lsA C hP hD hS hl)) (fun z => (kf z p l e s m args below meth c D cs a A H locs lsA C hP hD hS hl))
theorem sz_if_ge {x : Int32} {off : Int} (tgt : Nat) (hd : decode M.2.1 pc = .ok (.ifCond .ge off, 3)) (ht : (pc : Int) + off = (tgt : Int)) (kt : 0 ≤ x → gz_J La h M tgt ls st g Ph) (kf : ¬ (0 ≤ x) → gz_J La h M (pc + 3) ls st g Ph) : gz_J La h M pc ls (.int x :: st) g Ph := by
  intro p l e s m args below meth c D cs a A H locs lsA C hP hD hS hl
  exact lv_if_ge C.1 C.2.1 hd ht (fun z => (kt z p l e s m args below meth c D cs a A H locs lsA C hP hD hS hl)) (fun z => (kf z p l e s m args below meth c D cs a A H locs lsA C hP hD hS hl))
theorem sz_icmp_ge {x y : Int32} {off : Int} (tgt : Nat) (hd : decode M.2.1 pc = .ok (.if_icmp .ge off, 3)) (ht : (pc : Int) + off = (tgt : Int)) (kt : y ≤ x → gz_J La h M tgt ls st g Ph) (kf : ¬ (y ≤ x) → gz_J La h M (pc + 3) ls st g Ph) : gz_J La h M pc ls (.int y :: .int x :: st) g Ph := by
  intro p l e s m args below meth c D cs a A H locs lsA C hP hD hS hl
  exact lv_icmp_ge C.1 C.2.1 hd ht (fun z => (kt z p l e s m args below meth c D cs a A H locs lsA C hP hD hS hl)) (fun z => (kf z p l e s m args below meth c D cs a A H locs lsA C hP hD hS hl))
theorem sz_if_gt {x : Int32} {off : Int} (tgt : Nat) (hd : decode M.2.1 pc = .ok (.ifCond .gt off, 3)) (ht : (pc : Int) + off = (tgt : Int)) (kt : 0 < x → gz_J La h M tgt ls st g Ph) (kf : ¬ (0 < x) → gz_J La h M (pc + 3) ls st g Ph) : gz_J La h M pc ls (.int x :: st) g Ph := by
  intro p l e s m args below meth c D cs a A H locs lsA C hP hD hS hl
  exact lv_if_gt C.1 C.2.1 hd ht (fun z => (kt z p l e s m args below meth c D cs a A H locs lsA C hP hD hS hl)) (fun z => (kf z p l e s m args below meth c D cs a A H locs lsA C hP hD hS hl))
theorem sz_icmp_gt {x y : Int32} {off : Int} (tgt : Nat) (hd : decode M.2.1 pc = .ok (.if_icmp .gt off, 3)) (ht : (pc : Int) + off = (tgt : Int)) (kt : y < x → gz_J La h M tgt ls st g Ph) (kf : ¬ (y < x) → gz_J La h M (pc + 3) ls st g Ph) : gz_J La h M pc ls (.int y :: .int x :: st) g Ph := by
  intro p l e s m args below meth c D cs a A H locs lsA C hP hD hS hl
  exact lv_icmp_gt C.1 C.2.1 hd ht (fun z => (kt z p l e s m args below meth c D cs a A H locs lsA C hP hD hS hl)) (fun z => (kf z p l e s m args below meth c D cs a A H locs lsA C hP hD hS hl))
theorem sz_if_le {x : Int32} {off : Int} (tgt : Nat) (hd : decode M.2.1 pc = .ok (.ifCond .le off, 3)) (ht : (pc : Int) + off = (tgt : Int)) (kt : x ≤ 0 → gz_J La h M tgt ls st g Ph) (kf : ¬ (x ≤ 0) → gz_J La h M (pc + 3) ls st g Ph) : gz_J La h M pc ls (.int x :: st) g Ph := by
  intro p l e s m args below meth c D cs a A H locs lsA C hP hD hS hl
  exact lv_if_le C.1 C.2.1 hd ht (fun z => (kt z p l e s m args below meth c D cs a A H locs lsA C hP hD hS hl)) (fun z => (kf z p l e s m args below meth c D cs a A H locs lsA C hP hD hS hl))
theorem sz_icmp_le {x y : Int32} {off : Int} (tgt : Nat) (hd : decode M.2.1 pc = .ok (.if_icmp .le off, 3)) (ht : (pc : Int) + off = (tgt : Int)) (kt : x ≤ y → gz_J La h M tgt ls st g Ph) (kf : ¬ (x ≤ y) → gz_J La h M (pc + 3) ls st g Ph) : gz_J La h M pc ls (.int y :: .int x :: st) g Ph := by
  intro p l e s m args below meth c D cs a A H locs lsA C hP hD hS hl
  exact lv_icmp_le C.1 C.2.1 hd ht (fun z => (kt z p l e s m args below meth c D cs a A H locs lsA C hP hD hS hl)) (fun z => (kf z p l e s m args below meth c D cs a A H locs lsA C hP hD hS hl))
theorem sz_goto {off : Int} (tgt : Nat) (hd : decode M.2.1 pc = .ok (.goto off, 3)) (ht : (pc : Int) + off = (tgt : Int)) (n : gz_J La h M tgt ls st g Ph) : gz_J La h M pc ls st g Ph := by
  intro p l e s m args below meth c D cs a A H locs lsA C hP hD hS hl
  exact lv_goto C.1 C.2.1 hd ht (n p l e s m args below meth c D cs a A H locs lsA C hP hD hS hl)
theorem sz_ifnull {off : Int} {x : Nat} (hd : decode M.2.1 pc = .ok (.ifnull off, 3)) (n : gz_J La h M (pc + 3) ls st g Ph) : gz_J La h M pc ls (.ref x :: st) g Ph := by
  intro p l e s m args below meth c D cs a A H locs lsA C hP hD hS hl
  exact lv_ifnull C.1 C.2.1 hd (n p l e s m args below meth c D cs a A H locs lsA C hP hD hS hl)
theorem sz_ifnullN {off : Int} (tgt : Nat) (hd : decode M.2.1 pc = .ok (.ifnull off, 3)) (ht : (pc : Int) + off = (tgt : Int)) (n : gz_J La h M tgt ls st g Ph) : gz_J La h M pc ls (.null :: st) g Ph := by
  intro p l e s m args below meth c D cs a A H locs lsA C hP hD hS hl
  exact lv_ifnullN C.1 C.2.1 hd ht (n p l e s m args below meth c D cs a A H locs lsA C hP hD hS hl)
theorem sz_ifnonnull {off : Int} (tgt : Nat) {x : Nat} (hd : decode M.2.1 pc = .ok (.ifnonnull off, 3)) (ht : (pc : Int) + off = (tgt : Int)) (n : gz_J La h M tgt ls st g Ph) : gz_J La h M pc ls (.ref x :: st) g Ph := by
  intro p l e s m args below meth c D cs a A H locs lsA C hP hD hS hl
  exact lv_ifnonnull C.1 C.2.1 hd ht (n p l e s m args below meth c D cs a A H locs lsA C hP hD hS hl)
theorem sz_ifnonnullN {off : Int} (hd : decode M.2.1 pc = .ok (.ifnonnull off, 3)) (n : gz_J La h M (pc + 3) ls st g Ph) : gz_J La h M pc ls (.null :: st) g Ph := by
  intro p l e s m args below meth c D cs a A H locs lsA C hP hD hS hl
  exact lv_ifnonnullN C.1 C.2.1 hd (n p l e s m args below meth c D cs a A H locs lsA C hP hD hS hl)
theorem sz_lookup {dflt : Int} {ps : Array (Int × Int)} {len : Nat} {x : Int32} {off : Int} (tgt : Nat) (hd : decode M.2.1 pc = .ok (.lookupswitch dflt ps, len)) (hp : (ps.toList.zip (ps.toList.drop 1)).all (fun (a, next) => a.1 < next.1) = true) (ho : Op.lookupswitch.offset ps.toList dflt x.toInt = off) (ht : (pc : Int) + off = (tgt : Int)) (n : gz_J La h M tgt ls st g Ph) : gz_J La h M pc ls (.int x :: st) g Ph := by
  intro p l e s m args below meth c D cs a A H locs lsA C hP hD hS hl
  exact lv_lookup C.1 C.2.1 hd hp ho ht (n p l e s m args below meth c D cs a A H locs lsA C hP hD hS hl)
theorem sz_tableOut {dflt lo hi : Int} {offs : Array Int} {len : Nat} {x : Int32} (tgt : Nat) (hd : decode M.2.1 pc = .ok (.tableswitch dflt lo hi offs, len)) (hh : x.toInt < lo ∨ hi < x.toInt) (ht : (pc : Int) + dflt = (tgt : Int)) (n : gz_J La h M tgt ls st g Ph) : gz_J La h M pc ls (.int x :: st) g Ph := by
  intro p l e s m args below meth c D cs a A H locs lsA C hP hD hS hl
  exact lv_tableOut C.1 C.2.1 hd hh ht (n p l e s m args below meth c D cs a A H locs lsA C hP hD hS hl)
theorem sz_tableIn {dflt lo hi : Int} {offs : Array Int} {len : Nat} {x : Int32} {off : Int} (tgt : Nat) (hd : decode M.2.1 pc = .ok (.tableswitch dflt lo hi offs, len)) (h1 : ¬ x.toInt < lo) (h2 : ¬ hi < x.toInt) (ho : offs[(x.toInt - lo).toNat]? = some off) (ht : (pc : Int) + off = (tgt : Int)) (n : gz_J La h M tgt ls st g Ph) : gz_J La h M pc ls (.int x :: st) g Ph := by
  intro p l e s m args below meth c D cs a A H locs lsA C hP hD hS hl
  exact lv_tableIn C.1 C.2.1 hd h1 h2 ho ht (n p l e s m args below meth c D cs a A H locs lsA C hP hD hS hl)
theorem sz_iret {x : Int32} {ty : FieldType} (hd : decode M.2.1 pc = .ok (.ireturn, 1)) (hr : M.2.2.2 = some ty) (hn : narrow ty (.int x) = .int x) (hq : Ph (some (.int x)) g) : gz_J La h M pc ls [.int x] g Ph := by
  intro p l e s m args below meth c D cs a A H locs lsA C hP hD hS hl
  exact W.zret C.1 C.2.1 (C.2.2.2.1.trans hr) hn (fun t ht hW => ⟨⟨some (.int x), g, rfl, hq, by rw [ht]; exact hP, va_K.moved hW.alike C.2.2.2.2.2.2.2.1, hD⟩, hS.F ht⟩) hS.2.2 hd C.2.2.2.2.1
theorem sz_lret {x : Int64} (hd : decode M.2.1 pc = .ok (.lreturn, 1)) (hr : M.2.2.2 = some .long) (hq : Ph (some (.long x)) g) : gz_J La h M pc ls [.long x] g Ph := by
  intro p l e s m args below meth c D cs a A H locs lsA C hP hD hS hl
  exact W.lret C.1 C.2.1 (C.2.2.2.1.trans hr) (fun t ht hW => ⟨⟨some (.long x), g, rfl, hq, by rw [ht]; exact hP, va_K.moved hW.alike C.2.2.2.2.2.2.2.1, hD⟩, hS.F ht⟩) hS.2.2 hd C.2.2.2.2.1
theorem sz_ret (hd : decode M.2.1 pc = .ok (.return_, 1)) (hr : M.2.2.2 = none) (hq : Ph none g) : gz_J La h M pc ls [] g Ph := by
  intro p l e s m args below meth c D cs a A H locs lsA C hP hD hS hl
  exact W.vret C.1 C.2.1 (C.2.2.2.1.trans hr) (fun t ht hW => ⟨⟨none, g, rfl, hq, by rw [ht]; exact hP, va_K.moved hW.alike C.2.2.2.2.2.2.2.1, hD⟩, hS.F ht⟩) hS.2.2 hd C.2.2.2.2.1
theorem sz_aret {x : Nat} {cn : String} (hd : decode M.2.1 pc = .ok (.areturn, 1)) (hr : M.2.2.2 = some (.object cn)) (hq : Ph (some (.ref x)) g) : gz_J La h M pc ls [.ref x] g Ph := by
  intro p l e s m args below meth c D cs a A H locs lsA C hP hD hS hl
  exact W.aret C.1 C.2.1 (C.2.2.2.1.trans hr) (Or.inl ⟨_, rfl⟩) (Or.inr ⟨_, rfl⟩) (fun t ht hW => ⟨⟨some (.ref x), g, rfl, hq, by rw [ht]; exact hP, va_K.moved hW.alike C.2.2.2.2.2.2.2.1, hD⟩, hS.F ht⟩) hS.2.2 hd C.2.2.2.2.1
theorem sz_aretN {cn : String} (hd : decode M.2.1 pc = .ok (.areturn, 1)) (hr : M.2.2.2 = some (.object cn)) (hq : Ph (some .null) g) : gz_J La h M pc ls [.null] g Ph := by
  intro p l e s m args below meth c D cs a A H locs lsA C hP hD hS hl
  exact W.aret C.1 C.2.1 (C.2.2.2.1.trans hr) (Or.inl ⟨_, rfl⟩) (Or.inl rfl) (fun t ht hW => ⟨⟨some .null, g, rfl, hq, by rw [ht]; exact hP, va_K.moved hW.alike C.2.2.2.2.2.2.2.1, hD⟩, hS.F ht⟩) hS.2.2 hd C.2.2.2.2.1
end SZ
end
section
/-! rows of fields, arrays, calls -/
def gz_fl (own : String) (ix ci k : Nat) : Prop := ci < 13 ∧ k < gz_nf ci ∧ Cond.fieldLink own ix (gz_kT ci k).1 (gz_kT ci k).2.1 (gz_kT ci k).2.2.1 ∈ gz_U
def gz_wi (g : gz_S) (j k : Nat) (v : Int32) : gz_S := (fun i => if i = j then upd (g.1 i) k v else g.1 i, g.2.1, g.2.2)
def gz_wl (g : gz_S) (j k : Nat) (v : Int64) : gz_S := (g.1, fun i => if i = j then vp_updL (g.2.1 i) k v else g.2.1 i, g.2.2)
def gz_wd (g : gz_S) (d : Nat) (v : Option Nat) : gz_S := (g.1, g.2.1, fun i => if i = d then v else g.2.2 i)
def gz_wa (g : gz_S) (j : Nat) (f : Nat → Int32) : gz_S := (fun i => if i = j then f else g.1 i, g.2.1, g.2.2)
section GZC
variable {cs : Nat → ClassId} {La : gz_L} {a : Nat → Nat} {g : gz_S} {j ci n : Nat}
theorem gz_ceO (hk : gz_kd La j = (0, ci)) : gz_ce cs La a g j = .inr (ci, (List.range (gz_nf ci)).map (gz_fv La a g j ci)) := by
  unfold gz_ce; rw [hk]; rfl
theorem gz_ce1 (hk : gz_kd La j = (1, n)) : gz_ce cs La a g j = .inl (cs 0, n, .inl (g.1 j)) := by
  unfold gz_ce; rw [hk]; rfl
theorem gz_ce2 (hk : gz_kd La j = (2, n)) : gz_ce cs La a g j = .inl (cs 1, n, .inl (g.1 j)) := by
  unfold gz_ce; rw [hk]; rfl
theorem gz_ce3 (hk : gz_kd La j = (3, n)) : gz_ce cs La a g j = .inl (cs 2, n, .inr (.inl (g.2.1 j))) := by
  unfold gz_ce; rw [hk]; rfl
theorem gz_ce4 (hk : gz_kd La j = (4, n)) : gz_ce cs La a g j = .inl (cs 3, n, .inr (.inr (.inr (.inr (fun i => (gz_rf La g j i).map a))))) := by
  unfold gz_ce; rw [hk]; rfl
theorem gz_ce5 (hk : gz_kd La j = (5, n)) : gz_ce cs La a g j = .inl (cs 4, n, .inr (.inr (.inr (.inr (fun i => (gz_rf La g j i).map a))))) := by
  unfold gz_ce; rw [hk]; rfl
theorem gz_ce_wi {k : Nat} {v : Int32} : ∀ i, i ≠ j → gz_ce cs La a (gz_wi g j k v) i = gz_ce cs La a g i := by
  intro i hi
  have e : (gz_wi g j k v).1 i = g.1 i := by unfold gz_wi; exact if_neg hi
  have e2 : ∀ q, gz_fv La a (gz_wi g j k v) i q = gz_fv La a g i q := by
    intro q; funext k2; unfold gz_fv; rw [e]; rfl
  unfold gz_ce; rw [e, e2]; rfl
theorem gz_ce_wa {f : Nat → Int32} : ∀ i, i ≠ j → gz_ce cs La a (gz_wa g j f) i = gz_ce cs La a g i := by
  intro i hi
  have e : (gz_wa g j f).1 i = g.1 i := by unfold gz_wa; exact if_neg hi
  have e2 : ∀ q, gz_fv La a (gz_wa g j f) i q = gz_fv La a g i q := by
    intro q; funext k2; unfold gz_fv; rw [e]; rfl
  unfold gz_ce; rw [e, e2]; rfl
theorem gz_ce_wl {k : Nat} {v : Int64} : ∀ i, i ≠ j → gz_ce cs La a (gz_wl g j k v) i = gz_ce cs La a g i := by
  intro i hi
  have e : (gz_wl g j k v).2.1 i = g.2.1 i := by unfold gz_wl; exact if_neg hi
  have e2 : ∀ q, gz_fv La a (gz_wl g j k v) i q = gz_fv La a g i q := by
    intro q; funext k2; unfold gz_fv; rw [e]; rfl
  unfold gz_ce; rw [e, e2]; rfl
theorem gz_setmap {f f' : Nat → Value} {N k : Nat} {v : Value} (hv : f' k = v) (ho : ∀ i, i < N → i ≠ k → f' i = f i) : (List.range N).map f' = ((List.range N).map f).set k v := by
  apply List.ext_getElem?
  intro i
  rw [List.getElem?_set, List.getElem?_map, List.getElem?_map]
  by_cases hi : i < N
  · rw [List.getElem?_range hi]
    by_cases hk : k = i
    · subst hk
      rw [if_pos rfl, if_pos (by simpa using hi)]
      simp [hv]
    · rw [if_neg hk]
      simp only [Option.map_some]
      rw [ho i hi (Ne.symm hk)]
  · have hn : (List.range N)[i]? = none := by rw [List.getElem?_eq_none]; simpa using hi
    rw [hn]
    by_cases hk : k = i
    · subst hk
      rw [if_pos rfl, if_neg (by simpa using hi)]
      rfl
    · rw [if_neg hk]; rfl
theorem gz_ceO_wi {k : Nat} {v : Int32} (hk : gz_kd La j = (0, ci)) (ht : gz_ft ci k = 0) : gz_ce cs La a (gz_wi g j k v) j = .inr (ci, ((List.range (gz_nf ci)).map (gz_fv La a g j ci)).set k (.int v)) := by
  rw [gz_ceO hk]
  congr 2
  refine gz_setmap ?_ ?_
  · unfold gz_fv; rw [if_pos ht]; unfold gz_wi; simp [upd]
  · intro i _ hi
    have e : (gz_wi g j k v).1 j i = g.1 j i := by unfold gz_wi; simp [upd, hi]
    unfold gz_fv; rw [e]; rfl
theorem gz_ceO_wl {k : Nat} {v : Int64} (hk : gz_kd La j = (0, ci)) (ht : gz_ft ci k = 1) : gz_ce cs La a (gz_wl g j k v) j = .inr (ci, ((List.range (gz_nf ci)).map (gz_fv La a g j ci)).set k (.long v)) := by
  rw [gz_ceO hk]
  congr 2
  refine gz_setmap ?_ ?_
  · unfold gz_fv; rw [if_neg (by rw [ht]; decide), if_pos ht]; unfold gz_wl; simp [vp_updL]
  · intro i _ hi
    have e : (gz_wl g j k v).2.1 j i = g.2.1 j i := by unfold gz_wl; simp [vp_updL, hi]
    unfold gz_fv; rw [e]; rfl
theorem gz_rf_wd {d i k : Nat} {v : Option Nat} (hd : ¬ (d = 0 ∧ i = 8 ∧ k = 0)) (hd1 : ¬ (d = 1 ∧ i = 39 ∧ k = 5)) : gz_rf La (gz_wd g d v) i k = gz_rf La g i k := by
  unfold gz_rf gz_wd
  by_cases h1 : i = 8 ∧ k = 0
  · rw [if_pos h1, if_pos h1]
    exact if_neg (fun e => hd ⟨e.symm, h1⟩)
  · rw [if_neg h1, if_neg h1]
    by_cases h2 : i = 39 ∧ k = 5
    · rw [if_pos h2, if_pos h2]
      exact if_neg (fun e => hd1 ⟨e.symm, h2⟩)
    · rw [if_neg h2, if_neg h2]
theorem gz_ce_wd {d : Nat} {v : Option Nat} (hdj : (d = 0 ∧ j = 8) ∨ (d = 1 ∧ j = 39)) : ∀ i, i ≠ j → gz_ce cs La a (gz_wd g d v) i = gz_ce cs La a g i := by
  intro i hi
  have e : ∀ k, gz_rf La (gz_wd g d v) i k = gz_rf La g i k := fun k => gz_rf_wd (fun z => by omega) (fun z => by omega)
  have e2 : ∀ q, gz_fv La a (gz_wd g d v) i q = gz_fv La a g i q := by
    intro q; funext k2; unfold gz_fv; rw [e]; rfl
  have e3 : (fun k => (gz_rf La (gz_wd g d v) i k).map a) = (fun k => (gz_rf La g i k).map a) := by funext k; rw [e]
  unfold gz_ce; rw [e2, e3]; rfl
theorem gz_ceO_wd {d k : Nat} {v : Option Nat} (hk : gz_kd La j = (0, ci)) (ht : gz_ft ci k = 2) (hdj : (d = 0 ∧ j = 8 ∧ k = 0) ∨ (d = 1 ∧ j = 39 ∧ k = 5)) : gz_ce cs La a (gz_wd g d v) j = .inr (ci, ((List.range (gz_nf ci)).map (gz_fv La a g j ci)).set k (va_rf (v.map a))) := by
  rw [gz_ceO hk]
  congr 2
  refine gz_setmap ?_ ?_
  · unfold gz_fv; rw [if_neg (by rw [ht]; decide), if_neg (by rw [ht]; decide)]
    congr 2
    rcases hdj with ⟨rfl, rfl, rfl⟩ | ⟨rfl, rfl, rfl⟩
    · unfold gz_rf gz_wd; rw [if_pos ⟨rfl, rfl⟩]; rfl
    · unfold gz_rf gz_wd; rw [if_neg (by decide), if_pos ⟨rfl, rfl⟩]; rfl
  · intro i _ hi
    have e : gz_rf La (gz_wd g d v) j i = gz_rf La g j i := gz_rf_wd (fun z => by omega) (fun z => by omega)
    unfold gz_fv; rw [e]; rfl
theorem gz_fvget {k : Nat} (hk : k < gz_nf ci) : ((List.range (gz_nf ci)).map (gz_fv La a g j ci))[k]? = some (gz_fv La a g j ci k) := by
  rw [List.getElem?_map, List.getElem?_range hk]; rfl
end GZC
section SZH
variable {La : gz_L} {h : Nat} {M : gz_M} {pc : Nat} {ls : List (Option Value)} {st : List Value} {g : gz_S} {Ph : Option Value → gz_S → Prop}
theorem sz_getI {j ci k ix : Nat} (hd : decode M.2.1 pc = .ok (.getfield ix, 3)) (hf : gz_fl M.1.cls ix ci k) (hk : gz_kd La j = (0, ci)) (ht : gz_ft ci k = 0) (n : gz_J La h M (pc + 3) ls (.int (g.1 j k) :: st) g Ph) : gz_J La h M pc ls (.ref j :: st) g Ph := by
  intro p l e s m args below meth c D cs a A H locs lsA C hP hD hS hl
  obtain ⟨q, -, hq⟩ := gz_at (cs := cs) (a := a) (g := g) (La := La) (j := j) (by rw [hk]; exact (by decide : 0 < 9))
  rw [gz_ceO hk] at hq
  have hv : gz_fv La a g j ci k = gz_cv a (.int (g.1 j k)) := by
    unfold gz_fv; rw [if_pos ht]; rfl
  exact va_get (D := D) (v := gz_cv a (.int (g.1 j k))) (C := gz_kR ci) (T := gz_kT ci) (N := gz_nf ci) C.1 C.2.1 C.2.2.2.2.2.2.1 (fun w hw => List.mem_cons_of_mem _ (gz_uw hf.1 w hw)) C.2.2.2.2.2.1 C.2.2.2.2.2.2.2.1 hP q hq (gz_cl hf.1) k hf.2.1 (C.2.2.2.2.2.2.1 _ (List.mem_cons_of_mem _ hf.2.2)) (fun _ h => h) (by rw [gz_fvget hf.2.1, hv]) hd (n p l e s m args below meth c D cs a A H locs lsA C hP hD hS hl)
theorem sz_getJ {j ci k ix : Nat} (hd : decode M.2.1 pc = .ok (.getfield ix, 3)) (hf : gz_fl M.1.cls ix ci k) (hk : gz_kd La j = (0, ci)) (ht : gz_ft ci k = 1) (n : gz_J La h M (pc + 3) ls (.long (g.2.1 j k) :: st) g Ph) : gz_J La h M pc ls (.ref j :: st) g Ph := by
  intro p l e s m args below meth c D cs a A H locs lsA C hP hD hS hl
  obtain ⟨q, -, hq⟩ := gz_at (cs := cs) (a := a) (g := g) (La := La) (j := j) (by rw [hk]; exact (by decide : 0 < 9))
  rw [gz_ceO hk] at hq
  have hv : gz_fv La a g j ci k = gz_cv a (.long (g.2.1 j k)) := by
    unfold gz_fv; rw [if_neg (by rw [ht]; decide), if_pos ht]; rfl
  exact va_get (D := D) (v := gz_cv a (.long (g.2.1 j k))) (C := gz_kR ci) (T := gz_kT ci) (N := gz_nf ci) C.1 C.2.1 C.2.2.2.2.2.2.1 (fun w hw => List.mem_cons_of_mem _ (gz_uw hf.1 w hw)) C.2.2.2.2.2.1 C.2.2.2.2.2.2.2.1 hP q hq (gz_cl hf.1) k hf.2.1 (C.2.2.2.2.2.2.1 _ (List.mem_cons_of_mem _ hf.2.2)) (fun _ h => h) (by rw [gz_fvget hf.2.1, hv]) hd (n p l e s m args below meth c D cs a A H locs lsA C hP hD hS hl)
theorem sz_getR {j ci k ix : Nat} {j2 : Nat} (hd : decode M.2.1 pc = .ok (.getfield ix, 3)) (hf : gz_fl M.1.cls ix ci k) (hk : gz_kd La j = (0, ci)) (ht : gz_ft ci k = 2) (hr : gz_rf La g j k = some j2) (n : gz_J La h M (pc + 3) ls (.ref j2 :: st) g Ph) : gz_J La h M pc ls (.ref j :: st) g Ph := by
  intro p l e s m args below meth c D cs a A H locs lsA C hP hD hS hl
  obtain ⟨q, -, hq⟩ := gz_at (cs := cs) (a := a) (g := g) (La := La) (j := j) (by rw [hk]; exact (by decide : 0 < 9))
  rw [gz_ceO hk] at hq
  have hv : gz_fv La a g j ci k = gz_cv a (.ref j2) := by
    unfold gz_fv; rw [if_neg (by rw [ht]; decide), if_neg (by rw [ht]; decide), hr]; rfl
  exact va_get (D := D) (v := gz_cv a (.ref j2)) (C := gz_kR ci) (T := gz_kT ci) (N := gz_nf ci) C.1 C.2.1 C.2.2.2.2.2.2.1 (fun w hw => List.mem_cons_of_mem _ (gz_uw hf.1 w hw)) C.2.2.2.2.2.1 C.2.2.2.2.2.2.2.1 hP q hq (gz_cl hf.1) k hf.2.1 (C.2.2.2.2.2.2.1 _ (List.mem_cons_of_mem _ hf.2.2)) (fun _ h => h) (by rw [gz_fvget hf.2.1, hv]) hd (n p l e s m args below meth c D cs a A H locs lsA C hP hD hS hl)
theorem sz_getN {j ci k ix : Nat} (hd : decode M.2.1 pc = .ok (.getfield ix, 3)) (hf : gz_fl M.1.cls ix ci k) (hk : gz_kd La j = (0, ci)) (ht : gz_ft ci k = 2) (hr : gz_rf La g j k = none) (n : gz_J La h M (pc + 3) ls (.null :: st) g Ph) : gz_J La h M pc ls (.ref j :: st) g Ph := by
  intro p l e s m args below meth c D cs a A H locs lsA C hP hD hS hl
  obtain ⟨q, -, hq⟩ := gz_at (cs := cs) (a := a) (g := g) (La := La) (j := j) (by rw [hk]; exact (by decide : 0 < 9))
  rw [gz_ceO hk] at hq
  have hv : gz_fv La a g j ci k = gz_cv a (.null) := by
    unfold gz_fv; rw [if_neg (by rw [ht]; decide), if_neg (by rw [ht]; decide), hr]; rfl
  exact va_get (D := D) (v := gz_cv a (.null)) (C := gz_kR ci) (T := gz_kT ci) (N := gz_nf ci) C.1 C.2.1 C.2.2.2.2.2.2.1 (fun w hw => List.mem_cons_of_mem _ (gz_uw hf.1 w hw)) C.2.2.2.2.2.1 C.2.2.2.2.2.2.2.1 hP q hq (gz_cl hf.1) k hf.2.1 (C.2.2.2.2.2.2.1 _ (List.mem_cons_of_mem _ hf.2.2)) (fun _ h => h) (by rw [gz_fvget hf.2.1, hv]) hd (n p l e s m args below meth c D cs a A H locs lsA C hP hD hS hl)
theorem sz_putI {j ci k ix : Nat} {v : Int32} (hd : decode M.2.1 pc = .ok (.putfield ix, 3)) (hf : gz_fl M.1.cls ix ci k) (hk : gz_kd La j = (0, ci)) (ht : gz_ft ci k = 0) (hn : narrow (gz_kY ci k) (.int v) = .int v) (hft : fits (gz_kY ci k) (.int v) = true) (hfin : (gz_kT ci k).2.2.2 = false) (n : gz_J La h M (pc + 3) ls st (gz_wi g j k v) Ph) : gz_J La h M pc ls (.int v :: .ref j :: st) g Ph := by
  intro p l e s m args below meth c D cs a A H locs lsA C hP hD hS hl
  obtain ⟨q, hq0, hq⟩ := gz_at (cs := cs) (a := a) (g := g) (La := La) (j := j) (by rw [hk]; exact (by decide : 0 < 9))
  rw [gz_ceO hk] at hq
  refine va_put (D := D) (ty := gz_kY ci k) (C := gz_kR ci) (T := gz_kT ci) (N := gz_nf ci) C.1 C.2.1 C.2.2.2.2.2.2.1 (fun w hw => List.mem_cons_of_mem _ (gz_uw hf.1 w hw)) (gz_kY ci) (gz_tyok hf.1) (gz_nmok hf.1) C.2.2.2.2.2.1 C.2.2.2.2.2.2.2.1 hP hD hS q hq (gz_cl hf.1) k hf.2.1 (C.2.2.2.2.2.2.1 _ (List.mem_cons_of_mem _ hf.2.2)) (fun _ h => h) hfin (gz_tyok hf.1 k hf.2.1) hn hft (by simpa using hf.2.1) hd (fun H locs hP hD2 hS => ?_)
  have ew : (gz_w cs La a g).set q (a j, .inr (ci, ((List.range (gz_nf ci)).map (gz_fv La a g j ci)).set k (gz_cv a (.int v)))) = gz_w cs La a (gz_wi g j k v) := gz_set hD hq0 (gz_ceO_wi hk ht) gz_ce_wi
  exact (n p l e s m args below meth c D cs a A H locs lsA C (ew ▸ hP) (ew ▸ hD2) hS hl)
theorem sz_putJ {j ci k ix : Nat} {v : Int64} (hd : decode M.2.1 pc = .ok (.putfield ix, 3)) (hf : gz_fl M.1.cls ix ci k) (hk : gz_kd La j = (0, ci)) (ht : gz_ft ci k = 1) (hn : narrow (gz_kY ci k) (.long v) = .long v) (hft : fits (gz_kY ci k) (.long v) = true) (hfin : (gz_kT ci k).2.2.2 = false) (n : gz_J La h M (pc + 3) ls st (gz_wl g j k v) Ph) : gz_J La h M pc ls (.long v :: .ref j :: st) g Ph := by
  intro p l e s m args below meth c D cs a A H locs lsA C hP hD hS hl
  obtain ⟨q, hq0, hq⟩ := gz_at (cs := cs) (a := a) (g := g) (La := La) (j := j) (by rw [hk]; exact (by decide : 0 < 9))
  rw [gz_ceO hk] at hq
  refine va_put (D := D) (ty := gz_kY ci k) (C := gz_kR ci) (T := gz_kT ci) (N := gz_nf ci) C.1 C.2.1 C.2.2.2.2.2.2.1 (fun w hw => List.mem_cons_of_mem _ (gz_uw hf.1 w hw)) (gz_kY ci) (gz_tyok hf.1) (gz_nmok hf.1) C.2.2.2.2.2.1 C.2.2.2.2.2.2.2.1 hP hD hS q hq (gz_cl hf.1) k hf.2.1 (C.2.2.2.2.2.2.1 _ (List.mem_cons_of_mem _ hf.2.2)) (fun _ h => h) hfin (gz_tyok hf.1 k hf.2.1) hn hft (by simpa using hf.2.1) hd (fun H locs hP hD2 hS => ?_)
  have ew : (gz_w cs La a g).set q (a j, .inr (ci, ((List.range (gz_nf ci)).map (gz_fv La a g j ci)).set k (gz_cv a (.long v)))) = gz_w cs La a (gz_wl g j k v) := gz_set hD hq0 (gz_ceO_wl hk ht) gz_ce_wl
  exact (n p l e s m args below meth c D cs a A H locs lsA C (ew ▸ hP) (ew ▸ hD2) hS hl)
theorem sz_putD {j ci k ix : Nat} {d v : Nat} (hd : decode M.2.1 pc = .ok (.putfield ix, 3)) (hf : gz_fl M.1.cls ix ci k) (hk : gz_kd La j = (0, ci)) (ht : gz_ft ci k = 2) (hdj : (d = 0 ∧ j = 8 ∧ k = 0) ∨ (d = 1 ∧ j = 39 ∧ k = 5)) (hn : ∀ z, narrow (gz_kY ci k) (.ref z) = .ref z) (hft : ∀ z, fits (gz_kY ci k) (.ref z) = true) (hfin : (gz_kT ci k).2.2.2 = false) (n : gz_J La h M (pc + 3) ls st (gz_wd g d (some v)) Ph) : gz_J La h M pc ls (.ref v :: .ref j :: st) g Ph := by
  intro p l e s m args below meth c D cs a A H locs lsA C hP hD hS hl
  obtain ⟨q, hq0, hq⟩ := gz_at (cs := cs) (a := a) (g := g) (La := La) (j := j) (by rw [hk]; exact (by decide : 0 < 9))
  rw [gz_ceO hk] at hq
  refine va_put (D := D) (ty := gz_kY ci k) (C := gz_kR ci) (T := gz_kT ci) (N := gz_nf ci) C.1 C.2.1 C.2.2.2.2.2.2.1 (fun w hw => List.mem_cons_of_mem _ (gz_uw hf.1 w hw)) (gz_kY ci) (gz_tyok hf.1) (gz_nmok hf.1) C.2.2.2.2.2.1 C.2.2.2.2.2.2.2.1 hP hD hS q hq (gz_cl hf.1) k hf.2.1 (C.2.2.2.2.2.2.1 _ (List.mem_cons_of_mem _ hf.2.2)) (fun _ h => h) hfin (gz_tyok hf.1 k hf.2.1) (hn _) (hft _) (by simpa using hf.2.1) hd (fun H locs hP hD2 hS => ?_)
  have ew : (gz_w cs La a g).set q (a j, .inr (ci, ((List.range (gz_nf ci)).map (gz_fv La a g j ci)).set k (gz_cv a (.ref v)))) = gz_w cs La a (gz_wd g d (some v)) := gz_set hD hq0 (gz_ceO_wd hk ht hdj) (gz_ce_wd (by omega))
  exact (n p l e s m args below meth c D cs a A H locs lsA C (ew ▸ hP) (ew ▸ hD2) hS hl)
theorem sz_putN {j ci k ix : Nat} {d : Nat} (hd : decode M.2.1 pc = .ok (.putfield ix, 3)) (hf : gz_fl M.1.cls ix ci k) (hk : gz_kd La j = (0, ci)) (ht : gz_ft ci k = 2) (hdj : (d = 0 ∧ j = 8 ∧ k = 0) ∨ (d = 1 ∧ j = 39 ∧ k = 5)) (hn : narrow (gz_kY ci k) .null = .null) (hft : fits (gz_kY ci k) .null = true) (hfin : (gz_kT ci k).2.2.2 = false) (n : gz_J La h M (pc + 3) ls st (gz_wd g d none) Ph) : gz_J La h M pc ls (.null :: .ref j :: st) g Ph := by
  intro p l e s m args below meth c D cs a A H locs lsA C hP hD hS hl
  obtain ⟨q, hq0, hq⟩ := gz_at (cs := cs) (a := a) (g := g) (La := La) (j := j) (by rw [hk]; exact (by decide : 0 < 9))
  rw [gz_ceO hk] at hq
  refine va_put (D := D) (ty := gz_kY ci k) (C := gz_kR ci) (T := gz_kT ci) (N := gz_nf ci) C.1 C.2.1 C.2.2.2.2.2.2.1 (fun w hw => List.mem_cons_of_mem _ (gz_uw hf.1 w hw)) (gz_kY ci) (gz_tyok hf.1) (gz_nmok hf.1) C.2.2.2.2.2.1 C.2.2.2.2.2.2.2.1 hP hD hS q hq (gz_cl hf.1) k hf.2.1 (C.2.2.2.2.2.2.1 _ (List.mem_cons_of_mem _ hf.2.2)) (fun _ h => h) hfin (gz_tyok hf.1 k hf.2.1) hn hft (by simpa using hf.2.1) hd (fun H locs hP hD2 hS => ?_)
  have ew : (gz_w cs La a g).set q (a j, .inr (ci, ((List.range (gz_nf ci)).map (gz_fv La a g j ci)).set k (gz_cv a (.null)))) = gz_w cs La a (gz_wd g d none) := gz_set hD hq0 (gz_ceO_wd hk ht hdj) (gz_ce_wd (by omega))
  exact (n p l e s m args below meth c D cs a A H locs lsA C (ew ▸ hP) (ew ▸ hD2) hS hl)
theorem sz_iald {j N : Nat} {i : Int32} (hd : decode M.2.1 pc = .ok (.iaload, 1)) (hk : gz_kd La j = (1, N)) (hin : vp_in i N) (n : gz_J La h M (pc + 1) ls (.int (g.1 j i.toNatClampNeg) :: st) g Ph) : gz_J La h M pc ls (.int i :: .ref j :: st) g Ph := by
  intro p l e s m args below meth c D cs a A H locs lsA C hP hD hS hl
  obtain ⟨q, -, hq⟩ := gz_at (cs := cs) (a := a) (g := g) (La := La) (j := j) (by rw [hk]; exact (by decide : 1 < 9))
  rw [gz_ce1 hk] at hq
  exact va_iald C.1 C.2.1 C.2.2.2.2.2.2.2.1 hP q 0 hq rfl hin hd (n p l e s m args below meth c D cs a A H locs lsA C hP hD hS hl)
theorem sz_bald {j N : Nat} {i : Int32} (hd : decode M.2.1 pc = .ok (.baload, 1)) (hk : gz_kd La j = (2, N)) (hin : vp_in i N) (n : gz_J La h M (pc + 1) ls (.int (g.1 j i.toNatClampNeg) :: st) g Ph) : gz_J La h M pc ls (.int i :: .ref j :: st) g Ph := by
  intro p l e s m args below meth c D cs a A H locs lsA C hP hD hS hl
  obtain ⟨q, -, hq⟩ := gz_at (cs := cs) (a := a) (g := g) (La := La) (j := j) (by rw [hk]; exact (by decide : 2 < 9))
  rw [gz_ce2 hk] at hq
  exact va_bald C.1 C.2.1 C.2.2.2.2.2.2.2.1 hP q 1 hq rfl hin hd (n p l e s m args below meth c D cs a A H locs lsA C hP hD hS hl)
theorem sz_iast {j N : Nat} {i x : Int32} (hd : decode M.2.1 pc = .ok (.iastore, 1)) (hk : gz_kd La j = (1, N)) (hin : vp_in i N) (n : gz_J La h M (pc + 1) ls st (gz_wi g j i.toNatClampNeg x) Ph) : gz_J La h M pc ls (.int x :: .int i :: .ref j :: st) g Ph := by
  intro p l e s m args below meth c D cs a A H locs lsA C hP hD hS hl
  obtain ⟨q, hq0, hq⟩ := gz_at (cs := cs) (a := a) (g := g) (La := La) (j := j) (by rw [hk]; exact (by decide : 1 < 9))
  rw [gz_ce1 hk] at hq
  refine va_iast C.1 C.2.1 C.2.2.2.2.2.2.2.1 hP hD hS q 0 hq rfl hin hd (fun H locs hP hD2 hS => ?_)
  have ew := gz_set (cs := cs) (g' := gz_wi g j i.toNatClampNeg x) hD hq0 (gz_ce1 hk) gz_ce_wi
  have e1 : (gz_wi g j i.toNatClampNeg x).1 j = upd (g.1 j) i.toNatClampNeg x := if_pos rfl
  rw [e1] at ew
  exact (n p l e s m args below meth c D cs a A H locs lsA C (ew ▸ hP) (ew ▸ hD2) hS hl)
theorem sz_bast {j N : Nat} {i x : Int32} (hd : decode M.2.1 pc = .ok (.bastore, 1)) (hk : gz_kd La j = (2, N)) (hin : vp_in i N) (n : gz_J La h M (pc + 1) ls st (gz_wi g j i.toNatClampNeg (vp_nar .byte x)) Ph) : gz_J La h M pc ls (.int x :: .int i :: .ref j :: st) g Ph := by
  intro p l e s m args below meth c D cs a A H locs lsA C hP hD hS hl
  obtain ⟨q, hq0, hq⟩ := gz_at (cs := cs) (a := a) (g := g) (La := La) (j := j) (by rw [hk]; exact (by decide : 2 < 9))
  rw [gz_ce2 hk] at hq
  refine va_bast C.1 C.2.1 C.2.2.2.2.2.2.2.1 hP hD hS q 1 hq rfl hin hd (fun H locs hP hD2 hS => ?_)
  have ew := gz_set (cs := cs) (g' := gz_wi g j i.toNatClampNeg (vp_nar .byte x)) hD hq0 (gz_ce2 hk) gz_ce_wi
  have e1 : (gz_wi g j i.toNatClampNeg (vp_nar .byte x)).1 j = upd (g.1 j) i.toNatClampNeg (vp_nar .byte x) := if_pos rfl
  rw [e1] at ew
  exact (n p l e s m args below meth c D cs a A H locs lsA C (ew ▸ hP) (ew ▸ hD2) hS hl)
theorem sz_aald4q {j N j2 : Nat} {i : Int32} (hd : decode M.2.1 pc = .ok (.aaload, 1)) (hk : gz_kd La j = (4, N)) (hin : vp_in i N) (hr : gz_rf La g j i.toNatClampNeg = some j2) (n : gz_J La h M (pc + 1) ls (.ref j2 :: st) g Ph) : gz_J La h M pc ls (.int i :: .ref j :: st) g Ph := by
  intro p l e s m args below meth c D cs a A H locs lsA C hP hD hS hl
  obtain ⟨q, -, hq⟩ := gz_at (cs := cs) (a := a) (g := g) (La := La) (j := j) (by rw [hk]; exact (by decide : 4 < 9))
  rw [gz_ce4 hk] at hq
  refine va_aldq C.1 C.2.1 C.2.2.2.2.2.2.2.1 hP q 3 hq rfl hin hd ?_
  rw [hr]
  exact (n p l e s m args below meth c D cs a A H locs lsA C hP hD hS hl)
theorem sz_aald4n {j N : Nat} {i : Int32} (hd : decode M.2.1 pc = .ok (.aaload, 1)) (hk : gz_kd La j = (4, N)) (hin : vp_in i N) (hr : gz_rf La g j i.toNatClampNeg = none) (n : gz_J La h M (pc + 1) ls (.null :: st) g Ph) : gz_J La h M pc ls (.int i :: .ref j :: st) g Ph := by
  intro p l e s m args below meth c D cs a A H locs lsA C hP hD hS hl
  obtain ⟨q, -, hq⟩ := gz_at (cs := cs) (a := a) (g := g) (La := La) (j := j) (by rw [hk]; exact (by decide : 4 < 9))
  rw [gz_ce4 hk] at hq
  refine va_aldq C.1 C.2.1 C.2.2.2.2.2.2.2.1 hP q 3 hq rfl hin hd ?_
  rw [hr]
  exact (n p l e s m args below meth c D cs a A H locs lsA C hP hD hS hl)
theorem sz_aald5q {j N j2 : Nat} {i : Int32} (hd : decode M.2.1 pc = .ok (.aaload, 1)) (hk : gz_kd La j = (5, N)) (hin : vp_in i N) (hr : gz_rf La g j i.toNatClampNeg = some j2) (n : gz_J La h M (pc + 1) ls (.ref j2 :: st) g Ph) : gz_J La h M pc ls (.int i :: .ref j :: st) g Ph := by
  intro p l e s m args below meth c D cs a A H locs lsA C hP hD hS hl
  obtain ⟨q, -, hq⟩ := gz_at (cs := cs) (a := a) (g := g) (La := La) (j := j) (by rw [hk]; exact (by decide : 5 < 9))
  rw [gz_ce5 hk] at hq
  refine va_aldq C.1 C.2.1 C.2.2.2.2.2.2.2.1 hP q 4 hq rfl hin hd ?_
  rw [hr]
  exact (n p l e s m args below meth c D cs a A H locs lsA C hP hD hS hl)
theorem sz_aald5n {j N : Nat} {i : Int32} (hd : decode M.2.1 pc = .ok (.aaload, 1)) (hk : gz_kd La j = (5, N)) (hin : vp_in i N) (hr : gz_rf La g j i.toNatClampNeg = none) (n : gz_J La h M (pc + 1) ls (.null :: st) g Ph) : gz_J La h M pc ls (.int i :: .ref j :: st) g Ph := by
  intro p l e s m args below meth c D cs a A H locs lsA C hP hD hS hl
  obtain ⟨q, -, hq⟩ := gz_at (cs := cs) (a := a) (g := g) (La := La) (j := j) (by rw [hk]; exact (by decide : 5 < 9))
  rw [gz_ce5 hk] at hq
  refine va_aldq C.1 C.2.1 C.2.2.2.2.2.2.2.1 hP q 4 hq rfl hin hd ?_
  rw [hr]
  exact (n p l e s m args below meth c D cs a A H locs lsA C hP hD hS hl)
theorem sz_alen {j kn N : Nat} {v : Int32} (hd : decode M.2.1 pc = .ok (.arraylength, 1)) (hk : gz_kd La j = (1, N)) (hv : Int32.ofNat N = v) (n : gz_J La h M (pc + 1) ls (.int v :: st) g Ph) : gz_J La h M pc ls (.ref j :: st) g Ph := by
  intro p l e s m args below meth c D cs a A H locs lsA C hP hD hS hl
  obtain ⟨q, -, hq⟩ := gz_at (cs := cs) (a := a) (g := g) (La := La) (j := j) (by rw [hk]; exact (by decide : 1 < 9))
  rw [gz_ce1 hk] at hq
  exact va_alen C.1 C.2.1 C.2.2.2.2.2.2.2.1 hP q 0 hq rfl hv hd (n p l e s m args below meth c D cs a A H locs lsA C hP hD hS hl)
theorem sz_gs0 {ix : Nat} (hd : decode M.2.1 pc = .ok (.getstatic ix, 3)) (hw : Cond.fieldLink M.1.cls ix "PrintsGoOn$ShoreReader" "RULE_ITEMS" "[I" ∈ gz_U) (n : gz_J La h M (pc + 3) ls (.ref 200 :: st) g Ph) : gz_J La h M pc ls st g Ph := by
  intro p l e s m args below meth c D cs a A H locs lsA C hP hD hS hl
  exact va_gets C.1 C.2.1 C.2.2.2.2.2.2.2.2.1.1.1.1 hS C.2.2.2.2.2.1 (C.2.2.2.2.2.2.1 _ (List.mem_cons_of_mem _ hw)) (fun _ h => h) hd (n p l e s m args below meth c D cs a A H locs lsA C hP hD hS hl)
theorem sz_tb0 {i : Int32} (hd : decode M.2.1 pc = .ok (.iaload, 1)) (hin : vp_in i 16) (n : gz_J La h M (pc + 1) ls (.int (gz_t0 i.toNatClampNeg) :: st) g Ph) : gz_J La h M pc ls (.int i :: .ref 200 :: st) g Ph := by
  intro p l e s m args below meth c D cs a A H locs lsA C hP hD hS hl
  exact va_ti C.1 C.2.1 C.2.2.2.2.2.2.2.2.1.1.1.2 hS hin rfl hd (n p l e s m args below meth c D cs a A H locs lsA C hP hD hS hl)
theorem sz_gs1 {ix : Nat} (hd : decode M.2.1 pc = .ok (.getstatic ix, 3)) (hw : Cond.fieldLink M.1.cls ix "PrintsGoOn$ShoreReader" "GOER_ITEMS" "[I" ∈ gz_U) (n : gz_J La h M (pc + 3) ls (.ref 201 :: st) g Ph) : gz_J La h M pc ls st g Ph := by
  intro p l e s m args below meth c D cs a A H locs lsA C hP hD hS hl
  exact va_gets C.1 C.2.1 C.2.2.2.2.2.2.2.2.1.1.2.1.1 hS C.2.2.2.2.2.1 (C.2.2.2.2.2.2.1 _ (List.mem_cons_of_mem _ hw)) (fun _ h => h) hd (n p l e s m args below meth c D cs a A H locs lsA C hP hD hS hl)
theorem sz_tb1 {i : Int32} (hd : decode M.2.1 pc = .ok (.iaload, 1)) (hin : vp_in i 16) (n : gz_J La h M (pc + 1) ls (.int (gz_t1 i.toNatClampNeg) :: st) g Ph) : gz_J La h M pc ls (.int i :: .ref 201 :: st) g Ph := by
  intro p l e s m args below meth c D cs a A H locs lsA C hP hD hS hl
  exact va_ti C.1 C.2.1 C.2.2.2.2.2.2.2.2.1.1.2.1.2 hS hin rfl hd (n p l e s m args below meth c D cs a A H locs lsA C hP hD hS hl)
theorem sz_gs2 {ix : Nat} (hd : decode M.2.1 pc = .ok (.getstatic ix, 3)) (hw : Cond.fieldLink M.1.cls ix "PrintsGoOn$Law" "LETTER_SIGNS" "[C" ∈ gz_U) (n : gz_J La h M (pc + 3) ls (.ref 202 :: st) g Ph) : gz_J La h M pc ls st g Ph := by
  intro p l e s m args below meth c D cs a A H locs lsA C hP hD hS hl
  exact va_gets C.1 C.2.1 C.2.2.2.2.2.2.2.2.1.1.2.2.1 hS C.2.2.2.2.2.1 (C.2.2.2.2.2.2.1 _ (List.mem_cons_of_mem _ hw)) (fun _ h => h) hd (n p l e s m args below meth c D cs a A H locs lsA C hP hD hS hl)
theorem sz_tb2 {i : Int32} (hd : decode M.2.1 pc = .ok (.caload, 1)) (hin : vp_in i 6) (n : gz_J La h M (pc + 1) ls (.int (gz_t2 i.toNatClampNeg) :: st) g Ph) : gz_J La h M pc ls (.int i :: .ref 202 :: st) g Ph := by
  intro p l e s m args below meth c D cs a A H locs lsA C hP hD hS hl
  exact va_tc C.1 C.2.1 C.2.2.2.2.2.2.2.2.1.1.2.2.2 hS hin rfl hd (n p l e s m args below meth c D cs a A H locs lsA C hP hD hS hl)
def gz_tt (t i : Nat) : Int32 := if t = 200 then gz_t0 i else gz_t1 i
theorem sz_tt {t : Nat} {i : Int32} (ht : t = 200 ∨ t = 201) (hd : decode M.2.1 pc = .ok (.iaload, 1)) (hin : vp_in i 16) (n : gz_J La h M (pc + 1) ls (.int (gz_tt t i.toNatClampNeg) :: st) g Ph) : gz_J La h M pc ls (.int i :: .ref t :: st) g Ph := by
  rcases ht with rfl | rfl
  · exact sz_tb0 hd hin n
  · exact sz_tb1 hd hin n
end SZH
end
section
/-! calls -/
def gz_mk (M : gz_M) (n : Nat) : Prop := plainName M.1.cls = true ∧ (M.1.cls ≠ "java/lang/invoke/MethodHandle" ∧ M.1.cls ≠ "java/lang/invoke/VarHandle" ∧ (parseMethodDescriptor M.1.desc).map (fun d => d.parameters.length) = some n) ∧ Cond.code M.1 M.2.1 M.2.2.1 M.2.2.2 ∈ gz_U ∧ M.2.2.1 ≤ 45 ∧ Cond.initialized M.1.cls ∈ gz_U
def gz_mv (own : String) (ix : Nat) (M : gz_M) (n : Nat) : Prop := gz_mk M n ∧ Cond.methodLink own ix M.1 ∈ gz_U ∧ Cond.instanceMethod M.1 ∈ gz_U ∧ Cond.selects M.1.cls M.1 M.1 ∈ gz_U
def gz_ms (own : String) (ix : Nat) (M : gz_M) (n : Nat) : Prop := gz_mk M n ∧ Cond.methodLink own ix M.1 ∈ gz_U ∧ Cond.static M.1 ∈ gz_U
theorem gz_good {w : Cond} (h : w ∈ gz_U) : (w.onTables && w.keeps) = true ∨ ∃ ty, w = .arrayClass ty := good_of_word (List.mem_filter.mp h).2
theorem gz_GI {M N : gz_M} {n : Nat} (h : gz_mk N n) : GoodIn (gz_ws M) (gz_ws N) := by
  intro w hw
  have hu : w ∈ gz_U := by
    rcases List.mem_cons.mp hw with e | e
    · rw [e]; exact h.2.2.1
    · exact e
  exact ⟨List.mem_cons_of_mem _ hu, gz_good hu⟩
section GZR
variable {p : Program} {l : Launch} {e : Env} {R : Room} {s : State} {m : MethodId} {args : Array Value} {below : List Frame} {meth : Method} {c : Code} {H : Heap} {locs : List Loc} {Q : State → Prop} {pc : Nat} {lsA : Array Slot} {rest st0 : List Value} {av : Array Value} {A0 A1 : Nat → Prop} {H0 : Heap}
variable {La : gz_L} {D : va_G} {cs : Nat → ClassId} {a : Nat → Nat} {Ps : Option Value → gz_S → Prop}
theorem gz_callg (hr : va_Run p l e R s m args below meth c H locs 0 0 0 0 (F0 m pc lsA st0) rest (gz_Q La D cs a A1 Ps av) A1) (hS : va_S A0 H0 H locs) (hA : ∀ q, A1 q → A0 q)
    (kk : ∀ (v : Option Value) (g : gz_S) (H1 : Heap) (locs1 : List Loc), Ps v g → va_P D vwCl (gz_w cs La a g) H1 → va_D A1 (gz_w cs La a g) → va_S A0 H0 H1 locs1 → W p l e R s m args below meth c H1 locs1 0 0 Q (F0 m (pc + 3) lsA ((v.map (gz_cv a)).toList ++ rest))) : W p l e R s m args below meth c H locs 0 0 Q (F0 m pc lsA st0) := by
  intro T hT X
  obtain ⟨v, st₀, t, T', L, h0, X', hL, e1, e2, ⟨⟨r, u, hv, hp, hP, hK, hD⟩, hz, hk⟩, st⟩ := hr T hT X
  cases hv
  rw [h0] at hz hk
  obtain ⟨t2, a1, b1⟩ := kk r u T'.heap (locs ++ L) hp (by rw [e1]; exact hP) hD
    ⟨Nat.le_trans hS.1 (by rw [e1]; exact hz), fun q h1 h2 => by rw [e1, hk q (Nat.lt_of_lt_of_le h1 hS.1) (fun z => h2 (hA q z))]; exact hS.2.1 q h1 h2, fun q hq => by
      rcases List.mem_append.mp hq with h | h
      · exact hS.2.2 q h
      · exact hA _ (hL q h)⟩ T' rfl X'
  exact ⟨t2, st t2 a1, b1⟩
theorem gz_A1 {cs : Nat → ClassId} {La : gz_L} {a : Nat → Nat} {g : gz_S} (hD : va_D A0 (gz_w cs La a g)) (hS : va_S A0 H0 H locs) (hA : ∀ q, H0.size ≤ q → A0 q) : ∀ q, va_A (gz_w cs La a g) H.size q → A0 q := by
  intro q h
  rcases h with ⟨k, x, h⟩ | h
  · exact hD.2 k (q, x) h
  · exact hA q (Nat.le_trans hS.1 h)
end GZR
section SZC
variable {La : gz_L} {h : Nat} {M : gz_M} {pc : Nat} {ls : List (Option Value)} {st : List Value} {g : gz_S} {Ph : Option Value → gz_S → Prop}
theorem gz_mapcat (a : Nat → Nat) (st : List Value) : ((st.map (gz_cv a)).map fun v => v.category) = st.map fun v => v.category := by
  rw [List.map_map]; congr 1; funext v; exact gz_cv_cat a v
theorem gz_blind {La : gz_L} {D : va_G} {cs : Nat → ClassId} {a : Nat → Nat} {g : gz_S} {av : List Value} {sz : Nat} : FrameBlind (va_Pc (av.map (gz_cv a)) (fun U => U.heap.size = sz ∧ va_P D vwCl (gz_w cs La a g) U.heap ∧ va_K D vwCl (gz_ty cs) U ∧ va_D (fun _ => True) (gz_w cs La a g) ∧ gz_RO a (va_A (gz_w cs La a g) sz) U U.heap)) := by
  intro b U f mk q
  obtain ⟨q0, q1, qP, qK, qD, qR⟩ := q
  exact ⟨q0, q1, qP, va_K.moved (u := U) (U := U.calling f mk b) (Vm.Alike.refl U.vm) qK, qD, gz_RO.same (u := U) (U := U.calling f mk b) rfl qR⟩
theorem sz_callV {ix h2 j ci : Nat} {N : gz_M} {As : List Value} {Ps : Option Value → gz_S → Prop} (hd : decode M.2.1 pc = .ok (.invokevirtual ix, 3)) (hm : gz_mv M.1.cls ix N As.length) (hh : h2 < h) (hci : ci < 13) (hk : gz_kd La j = (0, ci)) (hc : gz_kR ci = N.1.cls) (hst : (st.map fun v => v.category).sum ≤ 8)
    (kc : gz_K La h2 N (.ref j :: As) g Ps) (n : ∀ v g2, Ps v g2 → gz_J La h M (pc + 3) ls (v.toList ++ st) g2 Ph) : gz_J La h M pc ls (As.reverse ++ .ref j :: st) g Ph := by
  intro p l e s m args below meth c D cs a A H locs lsA C hP hD hS hl
  obtain ⟨hx, hb, hml, hr, hlk, hown, hts, hK, hR, hA⟩ := C
  have hA1 := gz_A1 (H := H) hD hS hA
  obtain ⟨q, -, hq⟩ := gz_at (cs := cs) (a := a) (g := g) (La := La) (j := j) (by rw [hk]; exact (by decide : 0 < 9))
  rw [gz_ceO hk] at hq
  have hts' : ∀ w ∈ gz_U, w.before args s = true := fun w hw => hts w (List.mem_cons_of_mem _ hw)
  have cb : CallB (gz_rm h) s args M.1.cls ix N.1 N.2.1 N.2.2.1 N.2.2.2 (gz_ws N) (gz_rm h2) 0 0 As.length := callB_of As.length hts (gz_GI hm.1) rfl rfl rfl (hts' _ hm.1.2.2.2.2) (hts' _ hm.2.1) hm.1.2.1 ⟨hh, by show 8 + (N.2.2.1 + 11) + 64 * h2 ≤ 64 * h; have := hm.1.2.2.2.1; omega⟩
  have hRO : ∀ U : State, U.heap = H → s.WarmedH U.vm → gz_RO a (va_A (gz_w cs La a g) H.size) U U.heap := fun U hU hW => by
    rw [hU]; exact ((hR.kept (fun q h1 h2 => hS.2.1 q h1 h2)).narrow hA1).warm hW
  have hcl := gz_cl hci
  rw [hc] at hcl
  have hrun := va_runV (p := p) (l := l) (e := e) (below := below) (meth := meth) (locs := locs) (cells := 0) (slots := 0) (H := H) (As := As.map (gz_cv a)) (rest := st.map (gz_cv a)) (b := a j) (g := F0 m pc lsA ((As.reverse ++ .ref j :: st).map (gz_cv a))) ⟨hx, hb, hml, hown, hts⟩ (kc l D cs a H.size) (C := N.1.cls) ⟨cb, hts' _ hm.2.2.1, hts' _ hm.2.2.2⟩
    ⟨gz_blind, va_recv hK hP (ci := ci) (q0 := q) hcl hq, fun U hU hW => ⟨rfl, by rw [hU], by rw [hU]; exact hP, va_K.moved hW.alike hK, ⟨hD.1, fun _ _ _ => trivial⟩, hRO U hU hW⟩⟩ rfl (by simp) hl.1 (by simp [List.map_append, List.map_reverse, gz_cv]) (lv_room (m := m) (pc := pc) (ls := lsA) (rest := []) (by rw [gz_mapcat]; exact hst)) hd ⟨Nat.le_refl 0, Nat.le_refl 0⟩
  refine gz_callg hrun hS hA1 (fun v g2 H1 locs1 hp hP1 hD1 hS1 => ?_)
  have k := n v g2 hp p l e s m args below meth c D cs a A H1 locs1 lsA ⟨hx, hb, hml, hr, hlk, hown, hts, hK, hR, hA⟩ hP1 (hD1.weaken (fun _ q _ z => hA1 q.1 z)) hS1 hl
  have ev : (v.toList ++ st).map (gz_cv a) = (v.map (gz_cv a)).toList ++ st.map (gz_cv a) := by cases v <;> rfl
  rw [ev] at k
  exact k
theorem sz_callS {ix h2 : Nat} {N : gz_M} {As : List Value} {Ps : Option Value → gz_S → Prop} (hd : decode M.2.1 pc = .ok (.invokestatic ix, 3)) (hm : gz_ms M.1.cls ix N As.length) (hh : h2 < h) (hst : (st.map fun v => v.category).sum ≤ 8)
    (kc : gz_K La h2 N As g Ps) (n : ∀ v g2, Ps v g2 → gz_J La h M (pc + 3) ls (v.toList ++ st) g2 Ph) : gz_J La h M pc ls (As.reverse ++ st) g Ph := by
  intro p l e s m args below meth c D cs a A H locs lsA C hP hD hS hl
  obtain ⟨hx, hb, hml, hr, hlk, hown, hts, hK, hR, hA⟩ := C
  have hA1 := gz_A1 (H := H) hD hS hA
  have hts' : ∀ w ∈ gz_U, w.before args s = true := fun w hw => hts w (List.mem_cons_of_mem _ hw)
  have cb : CallB (gz_rm h) s args M.1.cls ix N.1 N.2.1 N.2.2.1 N.2.2.2 (gz_ws N) (gz_rm h2) 0 0 As.length := callB_of As.length hts (gz_GI hm.1) rfl rfl rfl (hts' _ hm.1.2.2.2.2) (hts' _ hm.2.1) hm.1.2.1 ⟨hh, by show 8 + (N.2.2.1 + 11) + 64 * h2 ≤ 64 * h; have := hm.1.2.2.2.1; omega⟩
  have hRO : ∀ U : State, U.heap = H → s.WarmedH U.vm → gz_RO a (va_A (gz_w cs La a g) H.size) U U.heap := fun U hU hW => by
    rw [hU]; exact ((hR.kept (fun q h1 h2 => hS.2.1 q h1 h2)).narrow hA1).warm hW
  have hrun := va_runS (p := p) (l := l) (e := e) (below := below) (meth := meth) (locs := locs) (cells := 0) (slots := 0) (H := H) (As := As.map (gz_cv a)) (rest := st.map (gz_cv a)) (g := F0 m pc lsA ((As.reverse ++ st).map (gz_cv a))) ⟨hx, hb, hml, hown, hts⟩ (kc l D cs a H.size) ⟨cb, hts' _ hm.2.2⟩
    ⟨gz_blind, fun U hU hW => ⟨rfl, by rw [hU], by rw [hU]; exact hP, va_K.moved hW.alike hK, ⟨hD.1, fun _ _ _ => trivial⟩, hRO U hU hW⟩⟩ rfl (by simp) hl.1 (by simp [List.map_append, List.map_reverse]) (lv_room (m := m) (pc := pc) (ls := lsA) (rest := []) (by rw [gz_mapcat]; exact hst)) hd ⟨Nat.le_refl 0, Nat.le_refl 0⟩
  refine gz_callg hrun hS hA1 (fun v g2 H1 locs1 hp hP1 hD1 hS1 => ?_)
  have k := n v g2 hp p l e s m args below meth c D cs a A H1 locs1 lsA ⟨hx, hb, hml, hr, hlk, hown, hts, hK, hR, hA⟩ hP1 (hD1.weaken (fun _ q _ z => hA1 q.1 z)) hS1 hl
  have ev : (v.toList ++ st).map (gz_cv a) = (v.map (gz_cv a)).toList ++ st.map (gz_cv a) := by cases v <;> rfl
  rw [ev] at k
  exact k
/-- the ends of methods: int, nothing, long, a cell or null -/
def gz_Fi (r : Int32 × gz_S) : Option Value → gz_S → Prop := fun v g => v = some (.int r.1) ∧ g = r.2
def gz_Fl (r : Int64 × gz_S) : Option Value → gz_S → Prop := fun v g => v = some (.long r.1) ∧ g = r.2
def gz_Fv (r : gz_S) : Option Value → gz_S → Prop := fun v g => v = none ∧ g = r
def gz_Fr (r : Option Nat × gz_S) : Option Value → gz_S → Prop := fun v g => v = some (va_rf r.1) ∧ g = r.2
end SZC
end
section
/-! rows for the printed walks -/
def gz_let {α β : Type} (x : α) (f : α → Option β) : Option β := f x
theorem gz_lt {α β : Type} {x : α} {f : α → Option β} {r : β} (h : gz_let x f = some r) : ∃ y, y = x ∧ f y = some r := ⟨x, rfl, h⟩
theorem gz_bd {α β : Type} {x : Option α} {f : α → Option β} {r : β} (h : x.bind f = some r) : ∃ y, x = some y ∧ f y = some r := Option.bind_eq_some_iff.mp h
theorem gz_gd {β : Type} {c : Prop} {i : Decidable c} {x : Option β} {r : β} (h : (@ite _ c i x none) = some r) : c ∧ x = some r := by
  by_cases hc : c
  · rw [if_pos hc] at h; exact ⟨hc, h⟩
  · rw [if_neg hc] at h; cases h
theorem gz_ip {β : Type} {c : Prop} {i : Decidable c} {x y : Option β} {r : β} (hc : c) (h : (@ite _ c i x y) = some r) : x = some r := by rw [if_pos hc] at h; exact h
theorem gz_in1 {β : Type} {c : Prop} {i : Decidable c} {x y : Option β} {r : β} (hc : ¬ c) (h : (@ite _ c i x y) = some r) : y = some r := by rw [if_neg hc] at h; exact h
def gz_on {β : Type} (o : Option Nat) (a : Option β) (f : Nat → Option β) : Option β := match o with
  | none => a
  | some x => f x
abbrev gz_ok (i : Int32) (n : Nat) : Prop := ¬ (i < 0 ∨ n ≤ i.toNatClampNeg)
theorem gz_nbx {x : Int32} (h : x = 0 ∨ x = 1) : narrow .boolean (.int x) = .int x := by rcases h with rfl | rfl <;> rfl
section SZ2
variable {La : gz_L} {h : Nat} {M : gz_M} {pc : Nat} {ls : List (Option Value)} {st : List Value} {g : gz_S} {Ph : Option Value → gz_S → Prop}
theorem sz_tog {g2 : gz_S} (he : g2 = g) (n : gz_J La h M pc ls st g2 Ph) : gz_J La h M pc ls st g Ph := by subst he; exact n
theorem sz_topi {x y : Int32} (he : y = x) (n : gz_J La h M pc ls (.int y :: st) g Ph) : gz_J La h M pc ls (.int x :: st) g Ph := by subst he; exact n
theorem sz_topl {x y : Int64} (he : y = x) (n : gz_J La h M pc ls (.long y :: st) g Ph) : gz_J La h M pc ls (.long x :: st) g Ph := by subst he; exact n
theorem sz_ialdL {j N k : Nat} {i : Int32} (hd : decode M.2.1 pc = .ok (.iaload, 1)) (hk : gz_kd La j = (1, N)) (hin : vp_in i N) (hi : i.toNatClampNeg = k) (n : gz_J La h M (pc + 1) ls (.int (g.1 j k) :: st) g Ph) : gz_J La h M pc ls (.int i :: .ref j :: st) g Ph := by
  subst hi; exact sz_iald hd hk hin n
theorem sz_baldL {j N k : Nat} {i : Int32} (hd : decode M.2.1 pc = .ok (.baload, 1)) (hk : gz_kd La j = (2, N)) (hin : vp_in i N) (hi : i.toNatClampNeg = k) (n : gz_J La h M (pc + 1) ls (.int (g.1 j k) :: st) g Ph) : gz_J La h M pc ls (.int i :: .ref j :: st) g Ph := by
  subst hi; exact sz_bald hd hk hin n
theorem sz_iastL {j N k : Nat} {i x : Int32} {g2 : gz_S} (hd : decode M.2.1 pc = .ok (.iastore, 1)) (hk : gz_kd La j = (1, N)) (hin : vp_in i N) (hi : i.toNatClampNeg = k) (he : g2 = gz_wi g j k x) (n : gz_J La h M (pc + 1) ls st g2 Ph) : gz_J La h M pc ls (.int x :: .int i :: .ref j :: st) g Ph := by
  subst hi; subst he; exact sz_iast hd hk hin n
theorem sz_bastL {j N k : Nat} {i x : Int32} {g2 : gz_S} (hd : decode M.2.1 pc = .ok (.bastore, 1)) (hk : gz_kd La j = (2, N)) (hin : vp_in i N) (hi : i.toNatClampNeg = k) (he : g2 = gz_wi g j k (vp_nar .byte x)) (n : gz_J La h M (pc + 1) ls st g2 Ph) : gz_J La h M pc ls (.int x :: .int i :: .ref j :: st) g Ph := by
  subst hi; subst he; exact sz_bast hd hk hin n
/-- what a field of ints is -/
def gz_fi (ci k : Nat) : Prop := gz_ft ci k = 0 ∧ gz_kY ci k = .int ∧ (gz_kT ci k).2.2.2 = false
def gz_fz (ci k : Nat) : Prop := gz_ft ci k = 0 ∧ gz_kY ci k = .boolean ∧ (gz_kT ci k).2.2.2 = false
theorem sz_putI2 {j ci k ix : Nat} {v : Int32} {g2 : gz_S} (hd : decode M.2.1 pc = .ok (.putfield ix, 3)) (hf : gz_fl M.1.cls ix ci k) (hk : gz_kd La j = (0, ci)) (hi : gz_fi ci k) (he : g2 = gz_wi g j k v) (n : gz_J La h M (pc + 3) ls st g2 Ph) : gz_J La h M pc ls (.int v :: .ref j :: st) g Ph := by
  subst he; exact sz_putI hd hf hk hi.1 (by rw [hi.2.1]; rfl) (by rw [hi.2.1]; rfl) hi.2.2 n
theorem sz_putZ2 {j ci k ix : Nat} {v : Int32} {g2 : gz_S} (hd : decode M.2.1 pc = .ok (.putfield ix, 3)) (hf : gz_fl M.1.cls ix ci k) (hk : gz_kd La j = (0, ci)) (hi : gz_fz ci k) (hv : v = 0 ∨ v = 1) (he : g2 = gz_wi g j k v) (n : gz_J La h M (pc + 3) ls st g2 Ph) : gz_J La h M pc ls (.int v :: .ref j :: st) g Ph := by
  subst he
  refine sz_putI hd hf hk hi.1 ?_ ?_ hi.2.2 n
  · rw [hi.2.1]; exact gz_nbx hv
  · rw [hi.2.1]; rcases hv with rfl | rfl <;> rfl
theorem sz_putJ2 {j ci k ix : Nat} {v : Int64} {g2 : gz_S} (hd : decode M.2.1 pc = .ok (.putfield ix, 3)) (hf : gz_fl M.1.cls ix ci k) (hk : gz_kd La j = (0, ci)) (ht : gz_ft ci k = 1 ∧ gz_kY ci k = .long ∧ (gz_kT ci k).2.2.2 = false) (he : g2 = gz_wl g j k v) (n : gz_J La h M (pc + 3) ls st g2 Ph) : gz_J La h M pc ls (.long v :: .ref j :: st) g Ph := by
  subst he; exact sz_putJ hd hf hk ht.1 (by rw [ht.2.1]; rfl) (by rw [ht.2.1]; rfl) ht.2.2 n
theorem sz_callVi {ix h2 j ci : Nat} {N : gz_M} (As : List Value) (st : List Value) {r : Int32 × gz_S} (hd : decode M.2.1 pc = .ok (.invokevirtual ix, 3)) (hm : gz_mv M.1.cls ix N As.length) (hh : h2 < h) (hci : ci < 13) (hk : gz_kd La j = (0, ci)) (hc : gz_kR ci = N.1.cls) (hst : (st.map fun v => v.category).sum ≤ 8)
    (kc : gz_K La h2 N (.ref j :: As) g (gz_Fi r)) (n : gz_J La h M (pc + 3) ls (.int r.1 :: st) r.2 Ph) : gz_J La h M pc ls (As.reverse ++ .ref j :: st) g Ph :=
  sz_callV hd hm hh hci hk hc hst kc (fun _ _ e => by rw [e.1, e.2]; exact n)
theorem sz_callVv {ix h2 j ci : Nat} {N : gz_M} (As : List Value) (st : List Value) {r : gz_S} (hd : decode M.2.1 pc = .ok (.invokevirtual ix, 3)) (hm : gz_mv M.1.cls ix N As.length) (hh : h2 < h) (hci : ci < 13) (hk : gz_kd La j = (0, ci)) (hc : gz_kR ci = N.1.cls) (hst : (st.map fun v => v.category).sum ≤ 8)
    (kc : gz_K La h2 N (.ref j :: As) g (gz_Fv r)) (n : gz_J La h M (pc + 3) ls st r Ph) : gz_J La h M pc ls (As.reverse ++ .ref j :: st) g Ph :=
  sz_callV hd hm hh hci hk hc hst kc (fun _ _ e => by rw [e.1, e.2]; exact n)
theorem sz_callVr {ix h2 j ci : Nat} {N : gz_M} (As : List Value) (st : List Value) {r : Option Nat × gz_S} (hd : decode M.2.1 pc = .ok (.invokevirtual ix, 3)) (hm : gz_mv M.1.cls ix N As.length) (hh : h2 < h) (hci : ci < 13) (hk : gz_kd La j = (0, ci)) (hc : gz_kR ci = N.1.cls) (hst : (st.map fun v => v.category).sum ≤ 8)
    (kc : gz_K La h2 N (.ref j :: As) g (gz_Fr r)) (n : gz_J La h M (pc + 3) ls (va_rf r.1 :: st) r.2 Ph) : gz_J La h M pc ls (As.reverse ++ .ref j :: st) g Ph :=
  sz_callV hd hm hh hci hk hc hst kc (fun _ _ e => by rw [e.1, e.2]; exact n)
theorem sz_callSi {ix h2 : Nat} {N : gz_M} (As : List Value) (st : List Value) {r : Int32 × gz_S} (hd : decode M.2.1 pc = .ok (.invokestatic ix, 3)) (hm : gz_ms M.1.cls ix N As.length) (hh : h2 < h) (hst : (st.map fun v => v.category).sum ≤ 8)
    (kc : gz_K La h2 N As g (gz_Fi r)) (n : gz_J La h M (pc + 3) ls (.int r.1 :: st) r.2 Ph) : gz_J La h M pc ls (As.reverse ++ st) g Ph :=
  sz_callS hd hm hh hst kc (fun _ _ e => by rw [e.1, e.2]; exact n)
theorem sz_callSl {ix h2 : Nat} {N : gz_M} (As : List Value) (st : List Value) {r : Int64 × gz_S} (hd : decode M.2.1 pc = .ok (.invokestatic ix, 3)) (hm : gz_ms M.1.cls ix N As.length) (hh : h2 < h) (hst : (st.map fun v => v.category).sum ≤ 8)
    (kc : gz_K La h2 N As g (gz_Fl r)) (n : gz_J La h M (pc + 3) ls (.long r.1 :: st) r.2 Ph) : gz_J La h M pc ls (As.reverse ++ st) g Ph :=
  sz_callS hd hm hh hst kc (fun _ _ e => by rw [e.1, e.2]; exact n)
theorem sz_callSv {ix h2 : Nat} {N : gz_M} (As : List Value) (st : List Value) {r : gz_S} (hd : decode M.2.1 pc = .ok (.invokestatic ix, 3)) (hm : gz_ms M.1.cls ix N As.length) (hh : h2 < h) (hst : (st.map fun v => v.category).sum ≤ 8)
    (kc : gz_K La h2 N As g (gz_Fv r)) (n : gz_J La h M (pc + 3) ls st r Ph) : gz_J La h M pc ls (As.reverse ++ st) g Ph :=
  sz_callS hd hm hh hst kc (fun _ _ e => by rw [e.1, e.2]; exact n)
/-- System.arraycopy of ints -/
theorem sz_acopy {ix j0 j1 n0 n1 k0 k1 kn : Nat} {sp dp n : Int32} {g2 : gz_S} (hd : decode M.2.1 pc = .ok (.invokestatic ix, 3)) (hw : Cond.methodLink M.1.cls ix arraycopyName ∈ gz_U ∧ Cond.native arraycopyName ∈ gz_U ∧ Cond.static arraycopyName ∈ gz_U ∧ Cond.initialized "java/lang/System" ∈ gz_U)
    (hh : 1 ≤ h) (hst : st = []) (hk0 : gz_kd La j0 = (1, n0)) (hk1 : gz_kd La j1 = (1, n1)) (h1 : ¬ sp < 0) (h2 : ¬ dp < 0) (h3 : ¬ n < 0) (e0 : sp.toNatClampNeg = k0) (e1 : dp.toNatClampNeg = k1) (en : n.toNatClampNeg = kn) (h4 : k0 + kn ≤ n0) (h5 : k1 + kn ≤ n1) (he : g2 = gz_wa g j1 (va_cpy (g.1 j0) (g.1 j1) k0 k1 kn))
    (nx : gz_J La h M (pc + 3) ls st g2 Ph) : gz_J La h M pc ls (.int n :: .int dp :: .ref j1 :: .int sp :: .ref j0 :: st) g Ph := by
  subst e0; subst e1; subst en; subst he; subst hst
  intro p l e s m args below meth c D cs a A H locs lsA C hP hD hS hl
  obtain ⟨q0, -, hq0⟩ := gz_at (cs := cs) (a := a) (g := g) (La := La) (j := j0) (by rw [hk0]; exact (by decide : 1 < 9))
  obtain ⟨q1, hr1, hq1⟩ := gz_at (cs := cs) (a := a) (g := g) (La := La) (j := j1) (by rw [hk1]; exact (by decide : 1 < 9))
  rw [gz_ce1 hk0] at hq0
  rw [gz_ce1 hk1] at hq1
  have hts' : ∀ w ∈ gz_U, w.before args s = true := fun w hw => C.2.2.2.2.2.2.1 w (List.mem_cons_of_mem _ hw)
  refine va_copyi C.1 C.2.1 (by rw [C.2.2.1]; exact hl.1.symm) C.2.2.2.2.2.1 (hts' _ hw.1) (hts' _ hw.2.1) (hts' _ hw.2.2.1) (hts' _ hw.2.2.2) C.2.2.2.2.2.2.2.1 hP hD hS q0 q1 0 0 hq0 hq1 rfl rfl rfl h1 h2 h3 h4 h5 (fun _ _ => rfl) hh ?_ hd (fun H locs hP hD2 hS => ?_)
  · show 0 + (nativeFrameWords "java/lang/System" "arraycopy" 5 + 11) ≤ 64 * h
    have : nativeFrameWords "java/lang/System" "arraycopy" 5 + 11 ≤ 64 := by decide +kernel
    omega
  · have ew := gz_set (cs := cs) (g' := gz_wa g j1 (va_cpy (g.1 j0) (g.1 j1) sp.toNatClampNeg dp.toNatClampNeg n.toNatClampNeg)) hD hr1 (gz_ce1 hk1) gz_ce_wa
    have e1 : (gz_wa g j1 (va_cpy (g.1 j0) (g.1 j1) sp.toNatClampNeg dp.toNatClampNeg n.toNatClampNeg)).1 j1 = va_cpy (g.1 j0) (g.1 j1) sp.toNatClampNeg dp.toNatClampNeg n.toNatClampNeg := if_pos rfl
    rw [e1] at ew
    exact nx p l e s m args below meth c D cs a A H locs lsA C (ew ▸ hP) (ew ▸ hD2) hS hl
end SZ2
/-- the three scenes, by their cells -/
abbrev gz_sc (j : Nat) : Prop := j = 5 ∨ j = 6 ∨ j = 7
theorem kdS {La : gz_L} {j : Nat} (hj : gz_sc j) : gz_kd La j = (0, 6) := by rcases hj with rfl | rfl | rfl <;> rfl
theorem kdSv {La : gz_L} {j : Nat} (hj : gz_sc j) : gz_kd La (j + 16) = (1, 61) := by rcases hj with rfl | rfl | rfl <;> rfl
theorem rfS {La : gz_L} {g : gz_S} {j : Nat} (hj : gz_sc j) : gz_rf La g j 0 = some (j + 16) := by rcases hj with rfl | rfl | rfl <;> rfl
/-- evenings and laws -/
abbrev gz_ev (La : gz_L) (e : Nat) : Prop := 110 ≤ e ∧ e < 110 + 2 * La.2.1 ∧ e < 118 ∧ (e - 110) % 2 = 0
abbrev gz_lw (La : gz_L) (e : Nat) : Prop := 100 ≤ e ∧ e < 100 + 2 * La.1 ∧ e < 108 ∧ (e - 100) % 2 = 0
theorem kdE {La : gz_L} {e : Nat} (he : gz_ev La e) : gz_kd La e = (0, 0) := by
  obtain ⟨h1, h2, h3, h4⟩ := he
  unfold gz_kd
  rw [if_neg (by omega), if_neg (by omega), if_pos ⟨h1, h3, h2⟩, if_pos h4]
theorem kdEp {La : gz_L} {e : Nat} (he : gz_ev La e) : gz_kd La (e + 1) = (1, La.2.2 (e + 1)) := by
  obtain ⟨h1, h2, h3, h4⟩ := he
  unfold gz_kd
  rw [if_neg (by omega), if_neg (by omega), if_pos ⟨by omega, by omega, by omega⟩, if_neg (by omega)]
theorem rfE {La : gz_L} {g : gz_S} {e : Nat} (he : gz_ev La e) : gz_rf La g e 1 = some (e + 1) := by
  obtain ⟨h1, h2, h3, h4⟩ := he
  unfold gz_rf
  rw [if_neg (by omega), if_neg (by omega), if_neg (by omega), if_pos (Or.inr ⟨h1, h3, rfl⟩)]
theorem kdW {La : gz_L} {e : Nat} (he : gz_lw La e) : gz_kd La e = (0, 3) := by
  obtain ⟨h1, h2, h3, h4⟩ := he
  unfold gz_kd
  rw [if_neg (by omega), if_pos ⟨h1, h3, h2⟩, if_pos h4]
theorem kdWc {La : gz_L} {e : Nat} (he : gz_lw La e) : gz_kd La (e + 1) = (1, La.2.2 (e + 1)) := by
  obtain ⟨h1, h2, h3, h4⟩ := he
  unfold gz_kd
  rw [if_neg (by omega), if_pos ⟨by omega, by omega, by omega⟩, if_neg (by omega)]
theorem rfW {La : gz_L} {g : gz_S} {e : Nat} (he : gz_lw La e) : gz_rf La g e 0 = some (e + 1) := by
  obtain ⟨h1, h2, h3, h4⟩ := he
  unfold gz_rf
  rw [if_neg (by omega), if_neg (by omega), if_neg (by omega), if_pos (Or.inl ⟨h1, h3, rfl⟩)]
end
section
/-! rows over the five texts: cells 210 .. 214, their bytes 220 .. 224 -/
section SZT
variable {La : gz_L} {h : Nat} {M : gz_M} {pc : Nat} {ls : List (Option Value)} {st : List Value} {g : gz_S} {Ph : Option Value → gz_S → Prop}
abbrev gz_str (w : Nat) : Prop := 210 ≤ w ∧ w < 215
abbrev gz_stb (w : Nat) : Prop := 220 ≤ w ∧ w < 225
theorem sz_strv {ix w : Nat} (hw : gz_str w) (hd : decode M.2.1 pc = .ok (.getfield ix, 3)) (hl1 : Cond.fieldLink M.1.cls ix "java/lang/String" "value" "[B" ∈ gz_U) (n : gz_J La h M (pc + 3) ls (.ref (w + 10) :: st) g Ph) : gz_J La h M pc ls (.ref w :: st) g Ph := by
  intro p l e s m args below meth c D cs a A H locs lsA C hP hD hS hl
  have hV := (C.2.2.2.2.2.2.2.2.1.2.1.1 (w - 210) (by omega)).2.2.1
  have e1 : 210 + (w - 210) = w := by omega
  have e2 : 220 + (w - 210) = w + 10 := by omega
  dsimp only at hV
  rw [e1, e2] at hV
  exact vk_getf C.1 C.2.1 hV hS C.2.2.2.2.2.1 (C.2.2.2.2.2.2.1 _ (List.mem_cons_of_mem _ hl1)) (fun _ h => h) hd (n p l e s m args below meth c D cs a A H locs lsA C hP hD hS hl)
theorem sz_strc {ix w : Nat} (hw : gz_str w) (hd : decode M.2.1 pc = .ok (.getfield ix, 3)) (hl1 : Cond.fieldLink M.1.cls ix "java/lang/String" "coder" "B" ∈ gz_U) (n : gz_J La h M (pc + 3) ls (.int 0 :: st) g Ph) : gz_J La h M pc ls (.ref w :: st) g Ph := by
  intro p l e s m args below meth c D cs a A H locs lsA C hP hD hS hl
  have hV := (C.2.2.2.2.2.2.2.2.1.2.1.1 (w - 210) (by omega)).2.1
  have e1 : 210 + (w - 210) = w := by omega
  dsimp only at hV
  rw [e1] at hV
  exact vk_getf C.1 C.2.1 hV hS C.2.2.2.2.2.1 (C.2.2.2.2.2.2.1 _ (List.mem_cons_of_mem _ hl1)) (fun _ h => h) hd (n p l e s m args below meth c D cs a A H locs lsA C hP hD hS hl)
theorem sz_gsC {ix : Nat} (hd : decode M.2.1 pc = .ok (.getstatic ix, 3)) (hl1 : Cond.fieldLink M.1.cls ix "java/lang/String" "COMPACT_STRINGS" "Z" ∈ gz_U) (n : gz_J La h M (pc + 3) ls (.int 1 :: st) g Ph) : gz_J La h M pc ls st g Ph := by
  intro p l e s m args below meth c D cs a A H locs lsA C hP hD hS hl
  exact va_gets C.1 C.2.1 C.2.2.2.2.2.2.2.2.1.2.2.1 hS C.2.2.2.2.2.1 (C.2.2.2.2.2.2.1 _ (List.mem_cons_of_mem _ hl1)) (fun _ h => h) hd (n p l e s m args below meth c D cs a A H locs lsA C hP hD hS hl)
theorem sz_gsF {ix : Nat} (hd : decode M.2.1 pc = .ok (.getstatic ix, 3)) (hl1 : Cond.fieldLink M.1.cls ix "jdk/internal/util/Preconditions" "SIOOBE_FORMATTER" "Ljava/util/function/BiFunction;" ∈ gz_U) (n : gz_J La h M (pc + 3) ls (.null :: st) g Ph) (n2 : gz_J La h M (pc + 3) ls (.ref 230 :: st) g Ph) : gz_J La h M pc ls st g Ph := by
  intro p l e s m args below meth c D cs a A H locs lsA C hP hD hS hl
  rcases C.2.2.2.2.2.2.2.2.1.2.2.2.1 with hZ | hZ
  · exact va_gets C.1 C.2.1 hZ hS C.2.2.2.2.2.1 (C.2.2.2.2.2.2.1 _ (List.mem_cons_of_mem _ hl1)) (fun _ h => h) hd (n p l e s m args below meth c D cs a A H locs lsA C hP hD hS hl)
  · exact va_gets C.1 C.2.1 hZ hS C.2.2.2.2.2.1 (C.2.2.2.2.2.2.1 _ (List.mem_cons_of_mem _ hl1)) (fun _ h => h) hd (n2 p l e s m args below meth c D cs a A H locs lsA C hP hD hS hl)
def gz_stn (w : Nat) : Nat := gz_sl.getD (w - 220) 0
def gz_stc (w i : Nat) : Int32 := (gz_sb.getD (w - 220) []).getD i 0
theorem sz_strb {w : Nat} {i : Int32} (hw : gz_stb w) (hd : decode M.2.1 pc = .ok (.baload, 1)) (hin : vp_in i (gz_stn w)) (n : gz_J La h M (pc + 1) ls (.int (gz_stc w i.toNatClampNeg) :: st) g Ph) : gz_J La h M pc ls (.int i :: .ref w :: st) g Ph := by
  intro p l e s m args below meth c D cs a A H locs lsA C hP hD hS hl
  have hV := (C.2.2.2.2.2.2.2.2.1.2.1.1 (w - 220) (by omega)).2.2.2
  have e2 : 220 + (w - 220) = w := by omega
  dsimp only at hV
  rw [e2] at hV
  exact va_tb C.1 C.2.1 hV hS hin rfl hd (n p l e s m args below meth c D cs a A H locs lsA C hP hD hS hl)
theorem sz_strl {w : Nat} {v : Int32} (hw : gz_stb w) (hd : decode M.2.1 pc = .ok (.arraylength, 1)) (hv : Int32.ofNat (gz_stn w) = v) (n : gz_J La h M (pc + 1) ls (.int v :: st) g Ph) : gz_J La h M pc ls (.ref w :: st) g Ph := by
  intro p l e s m args below meth c D cs a A H locs lsA C hP hD hS hl
  have hV := (C.2.2.2.2.2.2.2.2.1.2.1.1 (w - 220) (by omega)).2.2.2
  have e2 : 220 + (w - 220) = w := by omega
  dsimp only at hV
  rw [e2] at hV
  exact va_tlen C.1 C.2.1 hV hS hv hd (n p l e s m args below meth c D cs a A H locs lsA C hP hD hS hl)
theorem sz_ldcS {ix w : Nat} (hw : M.1.cls = "PrintsGoOnModel" ∧ ((ix = 259 ∧ w = 212) ∨ (ix = 268 ∧ w = 213) ∨ (ix = 276 ∧ w = 214))) (hd : decode M.2.1 pc = .ok (.ldc_w ix, 3)) (n : gz_J La h M (pc + 3) ls (.ref w :: st) g Ph) : gz_J La h M pc ls st g Ph := by
  intro p l e s m args below meth c D cs a A H locs lsA C hP hD hS hl
  have hown := C.2.2.2.2.2.1
  rw [hw.1] at hown
  have k := n p l e s m args below meth c D cs a A H locs lsA C hP hD hS hl
  have hR := C.2.2.2.2.2.2.2.2.1.2.2.2.2
  have go : ∀ {tx : String} {q : Nat}, vk_R "PrintsGoOnModel" ix tx (a q) s → w = q → W p l e (gz_rm h) s m args below meth c H locs 0 0 (MQ below (gz_Q La D cs a A Ph) args s 0 0 A) (F0 m pc lsA (st.map (gz_cv a))) := by
    intro tx q hZ hq
    subst hq
    intro T hT X
    obtain ⟨t, a1, b1⟩ := k T hT X
    exact ⟨t, X.ldcStringW C.1 hown (text := tx) (a := a w) hZ.1 hZ.2 (g := F0 m pc lsA (st.map (gz_cv a))) rfl (by rw [C.2.1]; exact hd) t a1, b1⟩
  rcases hw.2 with ⟨rfl, h2⟩ | ⟨rfl, h2⟩ | ⟨rfl, h2⟩
  · exact go hR.1 h2
  · exact go hR.2.1 h2
  · exact go hR.2.2.1 h2
theorem sz_ldcS2 {ix w : Nat} (hw : M.1.cls = "PrintsGoOnModel" ∧ ((ix = 26 ∧ w = 210) ∨ (ix = 32 ∧ w = 211))) (hd : decode M.2.1 pc = .ok (.ldc ix, 2)) (n : gz_J La h M (pc + 2) ls (.ref w :: st) g Ph) : gz_J La h M pc ls st g Ph := by
  intro p l e s m args below meth c D cs a A H locs lsA C hP hD hS hl
  have hown := C.2.2.2.2.2.1
  rw [hw.1] at hown
  have k := n p l e s m args below meth c D cs a A H locs lsA C hP hD hS hl
  have hR := C.2.2.2.2.2.2.2.2.1.2.2.2.2
  have go : ∀ {tx : String} {q : Nat}, vk_R "PrintsGoOnModel" ix tx (a q) s → w = q → W p l e (gz_rm h) s m args below meth c H locs 0 0 (MQ below (gz_Q La D cs a A Ph) args s 0 0 A) (F0 m pc lsA (st.map (gz_cv a))) := by
    intro tx q hZ hq
    subst hq
    intro T hT X
    obtain ⟨t, a1, b1⟩ := k T hT X
    exact ⟨t, X.ldcString C.1 hown (text := tx) (a := a w) hZ.1 hZ.2 (g := F0 m pc lsA (st.map (gz_cv a))) rfl (by rw [C.2.1]; exact hd) t a1, b1⟩
  rcases hw.2 with ⟨rfl, h2⟩ | ⟨rfl, h2⟩
  · exact go hR.2.2.2.1 h2
  · exact go hR.2.2.2.2 h2
/-- i2c -/
theorem sz_i2c {x : Int32} (hd : decode M.2.1 pc = .ok (.i2c, 1)) (n : gz_J La h M (pc + 1) ls (.int (x.toUInt32 % 65536).toInt32 :: st) g Ph) : gz_J La h M pc ls (.int x :: st) g Ph := by
  intro p l e s m args below meth c D cs a A H locs lsA C hP hD hS hl
  exact lv_i2c C.1 C.2.1 hd rfl (n p l e s m args below meth c D cs a A H locs lsA C hP hD hS hl)
/-- a call on one of the texts -/
theorem sz_callStr {ix h2 w : Nat} {N : gz_M} (As : List Value) (st : List Value) {r : Int32 × gz_S} (hw : gz_str w) (hd : decode M.2.1 pc = .ok (.invokevirtual ix, 3)) (hm : gz_mv M.1.cls ix N As.length) (hh : h2 < h) (hc : "java/lang/String" = N.1.cls) (hst : (st.map fun v => v.category).sum ≤ 8)
    (kc : gz_K La h2 N (.ref w :: As) g (gz_Fi r)) (n : gz_J La h M (pc + 3) ls (.int r.1 :: st) r.2 Ph) : gz_J La h M pc ls (As.reverse ++ .ref w :: st) g Ph := by
  intro p l e s m args below meth c D cs a A H locs lsA C hP hD hS hl
  obtain ⟨hx, hb, hml, hr, hlk, hown, hts, hK, hR, hA⟩ := C
  have hA1 := gz_A1 (H := H) hD hS hA
  have hts' : ∀ w ∈ gz_U, w.before args s = true := fun w hw => hts w (List.mem_cons_of_mem _ hw)
  have cb : CallB (gz_rm h) s args M.1.cls ix N.1 N.2.1 N.2.2.1 N.2.2.2 (gz_ws N) (gz_rm h2) 0 0 As.length := callB_of As.length hts (gz_GI hm.1) rfl rfl rfl (hts' _ hm.1.2.2.2.2) (hts' _ hm.2.1) hm.1.2.1 ⟨hh, by show 8 + (N.2.2.1 + 11) + 64 * h2 ≤ 64 * h; have := hm.1.2.2.2.1; omega⟩
  have hRO : ∀ U : State, U.heap = H → s.WarmedH U.vm → gz_RO a (va_A (gz_w cs La a g) H.size) U U.heap := fun U hU hW => by
    rw [hU]; exact ((hR.kept (fun q h1 h2 => hS.2.1 q h1 h2)).narrow hA1).warm hW
  have hrv := vk_recv (i := w - 210) hR.2.1 (by omega) hS
  have e1 : 210 + (w - 210) = w := by omega
  rw [e1, hc] at hrv
  have hrun := va_runV (p := p) (l := l) (e := e) (below := below) (meth := meth) (locs := locs) (cells := 0) (slots := 0) (H := H) (As := As.map (gz_cv a)) (rest := st.map (gz_cv a)) (b := a w) (g := F0 m pc lsA ((As.reverse ++ .ref w :: st).map (gz_cv a))) ⟨hx, hb, hml, hown, hts⟩ (kc l D cs a H.size) (C := N.1.cls) ⟨cb, hts' _ hm.2.2.1, hts' _ hm.2.2.2⟩
    ⟨gz_blind, hrv, fun U hU hW => ⟨rfl, by rw [hU], by rw [hU]; exact hP, va_K.moved hW.alike hK, ⟨hD.1, fun _ _ _ => trivial⟩, hRO U hU hW⟩⟩ rfl (by simp) hl.1 (by simp [List.map_append, List.map_reverse, gz_cv]) (lv_room (m := m) (pc := pc) (ls := lsA) (rest := []) (by rw [gz_mapcat]; exact hst)) hd ⟨Nat.le_refl 0, Nat.le_refl 0⟩
  refine gz_callg hrun hS hA1 (fun v g2 H1 locs1 hp hP1 hD1 hS1 => ?_)
  rw [hp.1]
  rw [hp.2] at hP1 hD1
  exact n p l e s m args below meth c D cs a A H1 locs1 lsA ⟨hx, hb, hml, hr, hlk, hown, hts, hK, hR, hA⟩ hP1 (hD1.weaken (fun _ q _ z => hA1 q.1 z)) hS1 hl
end SZT
theorem gz_sb_of {w : Nat} (h : gz_str w) : gz_stb (w + 10) := ⟨by omega, by omega⟩
end
