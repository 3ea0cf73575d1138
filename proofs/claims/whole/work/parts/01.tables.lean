-- ===== PART A: goes FIRST, ahead of the names: the tables' words, and 'selects' of the private methods out of them =====
/-- a private method of a class that the tables say can be made, by its rows of tables_1 -/
def lw_okq (q : MethodName × Nat) : Prop := (q.1.cls ≠ "java/lang/invoke/MethodHandle" ∧ q.1.cls ≠ "java/lang/invoke/VarHandle") ∧ Cond.instantiable q.1.cls q.2 ∈ tables_1 ∧ Cond.privateMethod q.1 ∈ tables_1 ∧ Cond.instanceMethod q.1 ∈ tables_1
theorem lw_p0 : lw_okq (⟨"GraveRails$Text", "passNumber", "()V"⟩, 7) := ⟨⟨by decide +kernel, by decide +kernel⟩, List.mem_of_getElem? (i := 30) (by decide +kernel), List.mem_of_getElem? (i := 514) (by decide +kernel), List.mem_of_getElem? (i := 515) (by decide +kernel)⟩
theorem lw_p1 : lw_okq (⟨"GraveRails$Text", "passWord", "()V"⟩, 7) := ⟨⟨by decide +kernel, by decide +kernel⟩, List.mem_of_getElem? (i := 30) (by decide +kernel), List.mem_of_getElem? (i := 518) (by decide +kernel), List.mem_of_getElem? (i := 519) (by decide +kernel)⟩
theorem lw_p2 : lw_okq (⟨"GraveRails$Text", "passSign", "(I)V"⟩, 7) := ⟨⟨by decide +kernel, by decide +kernel⟩, List.mem_of_getElem? (i := 30) (by decide +kernel), List.mem_of_getElem? (i := 522) (by decide +kernel), List.mem_of_getElem? (i := 523) (by decide +kernel)⟩
theorem lw_p3 : lw_okq (⟨"GraveRails$YardReader", "readClause", "(I)V"⟩, 2) := ⟨⟨by decide +kernel, by decide +kernel⟩, List.mem_of_getElem? (i := 64) (by decide +kernel), List.mem_of_getElem? (i := 526) (by decide +kernel), List.mem_of_getElem? (i := 527) (by decide +kernel)⟩
theorem lw_p4 : lw_okq (⟨"GraveRails$YardReader", "isFull", "(I)Z"⟩, 2) := ⟨⟨by decide +kernel, by decide +kernel⟩, List.mem_of_getElem? (i := 64) (by decide +kernel), List.mem_of_getElem? (i := 587) (by decide +kernel), List.mem_of_getElem? (i := 588) (by decide +kernel)⟩
theorem lw_p5 : lw_okq (⟨"GraveRails$YardReader", "readSize", "()V"⟩, 2) := ⟨⟨by decide +kernel, by decide +kernel⟩, List.mem_of_getElem? (i := 64) (by decide +kernel), List.mem_of_getElem? (i := 592) (by decide +kernel), List.mem_of_getElem? (i := 593) (by decide +kernel)⟩
theorem lw_p6 : lw_okq (⟨"GraveRails$YardReader", "readGrave", "()V"⟩, 2) := ⟨⟨by decide +kernel, by decide +kernel⟩, List.mem_of_getElem? (i := 64) (by decide +kernel), List.mem_of_getElem? (i := 601) (by decide +kernel), List.mem_of_getElem? (i := 602) (by decide +kernel)⟩
theorem lw_p7 : lw_okq (⟨"GraveRails$YardReader", "readPair", "()V"⟩, 2) := ⟨⟨by decide +kernel, by decide +kernel⟩, List.mem_of_getElem? (i := 64) (by decide +kernel), List.mem_of_getElem? (i := 614) (by decide +kernel), List.mem_of_getElem? (i := 615) (by decide +kernel)⟩
theorem lw_p8 : lw_okq (⟨"GraveRails$YardReader", "readUnpaired", "(I)I"⟩, 2) := ⟨⟨by decide +kernel, by decide +kernel⟩, List.mem_of_getElem? (i := 64) (by decide +kernel), List.mem_of_getElem? (i := 618) (by decide +kernel), List.mem_of_getElem? (i := 619) (by decide +kernel)⟩
theorem lw_p9 : lw_okq (⟨"GraveRails$YardReader", "readRoot", "()V"⟩, 2) := ⟨⟨by decide +kernel, by decide +kernel⟩, List.mem_of_getElem? (i := 64) (by decide +kernel), List.mem_of_getElem? (i := 630) (by decide +kernel), List.mem_of_getElem? (i := 631) (by decide +kernel)⟩
theorem lw_p10 : lw_okq (⟨"GraveRails$YardReader", "readHeavy", "()V"⟩, 2) := ⟨⟨by decide +kernel, by decide +kernel⟩, List.mem_of_getElem? (i := 64) (by decide +kernel), List.mem_of_getElem? (i := 646) (by decide +kernel), List.mem_of_getElem? (i := 647) (by decide +kernel)⟩
theorem lw_p11 : lw_okq (⟨"GraveRails$YardReader", "readFlood", "()V"⟩, 2) := ⟨⟨by decide +kernel, by decide +kernel⟩, List.mem_of_getElem? (i := 64) (by decide +kernel), List.mem_of_getElem? (i := 654) (by decide +kernel), List.mem_of_getElem? (i := 655) (by decide +kernel)⟩
theorem lw_p12 : lw_okq (⟨"GraveRails$RuleReader", "readSum", "()V"⟩, 3) := ⟨⟨by decide +kernel, by decide +kernel⟩, List.mem_of_getElem? (i := 141) (by decide +kernel), List.mem_of_getElem? (i := 710) (by decide +kernel), List.mem_of_getElem? (i := 711) (by decide +kernel)⟩
theorem lw_p13 : lw_okq (⟨"GraveRails$RuleReader", "readValue", "()V"⟩, 3) := ⟨⟨by decide +kernel, by decide +kernel⟩, List.mem_of_getElem? (i := 141) (by decide +kernel), List.mem_of_getElem? (i := 714) (by decide +kernel), List.mem_of_getElem? (i := 715) (by decide +kernel)⟩
theorem lw_p14 : lw_okq (⟨"GraveRails$RuleReader", "countOne", "()V"⟩, 3) := ⟨⟨by decide +kernel, by decide +kernel⟩, List.mem_of_getElem? (i := 141) (by decide +kernel), List.mem_of_getElem? (i := 721) (by decide +kernel), List.mem_of_getElem? (i := 722) (by decide +kernel)⟩
theorem lw_p15 : lw_okq (⟨"GraveRails$RuleReader", "signAmong", "(IIIII)I"⟩, 3) := ⟨⟨by decide +kernel, by decide +kernel⟩, List.mem_of_getElem? (i := 141) (by decide +kernel), List.mem_of_getElem? (i := 729) (by decide +kernel), List.mem_of_getElem? (i := 730) (by decide +kernel)⟩
def lw_privs_1 : List (MethodName × Nat) := [(⟨"GraveRails$Text", "passNumber", "()V"⟩, 7), (⟨"GraveRails$Text", "passWord", "()V"⟩, 7), (⟨"GraveRails$Text", "passSign", "(I)V"⟩, 7), (⟨"GraveRails$YardReader", "readClause", "(I)V"⟩, 2), (⟨"GraveRails$YardReader", "isFull", "(I)Z"⟩, 2), (⟨"GraveRails$YardReader", "readSize", "()V"⟩, 2), (⟨"GraveRails$YardReader", "readGrave", "()V"⟩, 2), (⟨"GraveRails$YardReader", "readPair", "()V"⟩, 2), (⟨"GraveRails$YardReader", "readUnpaired", "(I)I"⟩, 2), (⟨"GraveRails$YardReader", "readRoot", "()V"⟩, 2), (⟨"GraveRails$YardReader", "readHeavy", "()V"⟩, 2), (⟨"GraveRails$YardReader", "readFlood", "()V"⟩, 2), (⟨"GraveRails$RuleReader", "readSum", "()V"⟩, 3), (⟨"GraveRails$RuleReader", "readValue", "()V"⟩, 3), (⟨"GraveRails$RuleReader", "countOne", "()V"⟩, 3), (⟨"GraveRails$RuleReader", "signAmong", "(IIIII)I"⟩, 3)]
theorem lw_r1 : ∀ q ∈ lw_privs_1, lw_okq q := List.forall_mem_cons.mpr ⟨lw_p0, List.forall_mem_cons.mpr ⟨lw_p1, List.forall_mem_cons.mpr ⟨lw_p2, List.forall_mem_cons.mpr ⟨lw_p3, List.forall_mem_cons.mpr ⟨lw_p4, List.forall_mem_cons.mpr ⟨lw_p5, List.forall_mem_cons.mpr ⟨lw_p6, List.forall_mem_cons.mpr ⟨lw_p7, List.forall_mem_cons.mpr ⟨lw_p8, List.forall_mem_cons.mpr ⟨lw_p9, List.forall_mem_cons.mpr ⟨lw_p10, List.forall_mem_cons.mpr ⟨lw_p11, List.forall_mem_cons.mpr ⟨lw_p12, List.forall_mem_cons.mpr ⟨lw_p13, List.forall_mem_cons.mpr ⟨lw_p14, List.forall_mem_cons.mpr ⟨lw_p15, fun _ h => absurd h List.not_mem_nil⟩⟩⟩⟩⟩⟩⟩⟩⟩⟩⟩⟩⟩⟩⟩⟩
theorem lw_p16 : lw_okq (⟨"GraveRails$RuleReader", "readTest", "(I)V"⟩, 3) := ⟨⟨by decide +kernel, by decide +kernel⟩, List.mem_of_getElem? (i := 141) (by decide +kernel), List.mem_of_getElem? (i := 743) (by decide +kernel), List.mem_of_getElem? (i := 744) (by decide +kernel)⟩
theorem lw_p17 : lw_okq (⟨"GraveRails$RuleReader", "readFact", "(I)V"⟩, 3) := ⟨⟨by decide +kernel, by decide +kernel⟩, List.mem_of_getElem? (i := 141) (by decide +kernel), List.mem_of_getElem? (i := 747) (by decide +kernel), List.mem_of_getElem? (i := 748) (by decide +kernel)⟩
theorem lw_p18 : lw_okq (⟨"GraveRails$Acts", "nextOne", "()LGraveRails$State;"⟩, 3) := ⟨⟨by decide +kernel, by decide +kernel⟩, List.mem_of_getElem? (i := 316) (by decide +kernel), List.mem_of_getElem? (i := 807) (by decide +kernel), List.mem_of_getElem? (i := 808) (by decide +kernel)⟩
theorem lw_p19 : lw_okq (⟨"GraveRails", "startFromNow", "()V"⟩, 12) := ⟨⟨by decide +kernel, by decide +kernel⟩, List.mem_of_getElem? (i := 22) (by decide +kernel), List.mem_of_getElem? (i := 819) (by decide +kernel), List.mem_of_getElem? (i := 820) (by decide +kernel)⟩
theorem lw_p20 : lw_okq (⟨"GraveRails", "ruleInForce", "()LGraveRails$Rule;"⟩, 12) := ⟨⟨by decide +kernel, by decide +kernel⟩, List.mem_of_getElem? (i := 22) (by decide +kernel), List.mem_of_getElem? (i := 823) (by decide +kernel), List.mem_of_getElem? (i := 824) (by decide +kernel)⟩
theorem lw_p21 : lw_okq (⟨"GraveRails$Course", "floodRows", "()V"⟩, 12) := ⟨⟨by decide +kernel, by decide +kernel⟩, List.mem_of_getElem? (i := 336) (by decide +kernel), List.mem_of_getElem? (i := 837) (by decide +kernel), List.mem_of_getElem? (i := 838) (by decide +kernel)⟩
theorem lw_p22 : lw_okq (⟨"GraveRails$Course", "takeOrder", "()V"⟩, 12) := ⟨⟨by decide +kernel, by decide +kernel⟩, List.mem_of_getElem? (i := 336) (by decide +kernel), List.mem_of_getElem? (i := 841) (by decide +kernel), List.mem_of_getElem? (i := 842) (by decide +kernel)⟩
theorem lw_p23 : lw_okq (⟨"GraveRails$Course", "drop", "(I)V"⟩, 12) := ⟨⟨by decide +kernel, by decide +kernel⟩, List.mem_of_getElem? (i := 336) (by decide +kernel), List.mem_of_getElem? (i := 849) (by decide +kernel), List.mem_of_getElem? (i := 850) (by decide +kernel)⟩
theorem lw_p24 : lw_okq (⟨"GraveRails$Course", "takeTurn", "(I)V"⟩, 12) := ⟨⟨by decide +kernel, by decide +kernel⟩, List.mem_of_getElem? (i := 336) (by decide +kernel), List.mem_of_getElem? (i := 853) (by decide +kernel), List.mem_of_getElem? (i := 854) (by decide +kernel)⟩
theorem lw_p25 : lw_okq (⟨"GraveRails$Course", "fartherBy", "(I)I"⟩, 12) := ⟨⟨by decide +kernel, by decide +kernel⟩, List.mem_of_getElem? (i := 336) (by decide +kernel), List.mem_of_getElem? (i := 857) (by decide +kernel), List.mem_of_getElem? (i := 858) (by decide +kernel)⟩
theorem lw_p26 : lw_okq (⟨"GraveRails$Course", "fillWords", "(I)V"⟩, 12) := ⟨⟨by decide +kernel, by decide +kernel⟩, List.mem_of_getElem? (i := 336) (by decide +kernel), List.mem_of_getElem? (i := 862) (by decide +kernel), List.mem_of_getElem? (i := 863) (by decide +kernel)⟩
theorem lw_p27 : lw_okq (⟨"GraveRails$Rule", "worth", "(II[J)J"⟩, 7) := ⟨⟨by decide +kernel, by decide +kernel⟩, List.mem_of_getElem? (i := 147) (by decide +kernel), List.mem_of_getElem? (i := 876) (by decide +kernel), List.mem_of_getElem? (i := 877) (by decide +kernel)⟩
theorem lw_p28 : lw_okq (⟨"GraveRails$Course", "goStep", "(I)Z"⟩, 12) := ⟨⟨by decide +kernel, by decide +kernel⟩, List.mem_of_getElem? (i := 336) (by decide +kernel), List.mem_of_getElem? (i := 891) (by decide +kernel), List.mem_of_getElem? (i := 892) (by decide +kernel)⟩
theorem lw_p29 : lw_okq (⟨"GraveRails$Course", "laneRound", "(III)I"⟩, 12) := ⟨⟨by decide +kernel, by decide +kernel⟩, List.mem_of_getElem? (i := 336) (by decide +kernel), List.mem_of_getElem? (i := 895) (by decide +kernel), List.mem_of_getElem? (i := 896) (by decide +kernel)⟩
theorem lw_p30 : lw_okq (⟨"GraveRails$Course", "comeTo", "(III)V"⟩, 12) := ⟨⟨by decide +kernel, by decide +kernel⟩, List.mem_of_getElem? (i := 336) (by decide +kernel), List.mem_of_getElem? (i := 899) (by decide +kernel), List.mem_of_getElem? (i := 900) (by decide +kernel)⟩
theorem lw_p31 : lw_okq (⟨"GraveRails$Course", "moveStones", "()V"⟩, 12) := ⟨⟨by decide +kernel, by decide +kernel⟩, List.mem_of_getElem? (i := 336) (by decide +kernel), List.mem_of_getElem? (i := 904) (by decide +kernel), List.mem_of_getElem? (i := 905) (by decide +kernel)⟩
def lw_privs_2 : List (MethodName × Nat) := [(⟨"GraveRails$RuleReader", "readTest", "(I)V"⟩, 3), (⟨"GraveRails$RuleReader", "readFact", "(I)V"⟩, 3), (⟨"GraveRails$Acts", "nextOne", "()LGraveRails$State;"⟩, 3), (⟨"GraveRails", "startFromNow", "()V"⟩, 12), (⟨"GraveRails", "ruleInForce", "()LGraveRails$Rule;"⟩, 12), (⟨"GraveRails$Course", "floodRows", "()V"⟩, 12), (⟨"GraveRails$Course", "takeOrder", "()V"⟩, 12), (⟨"GraveRails$Course", "drop", "(I)V"⟩, 12), (⟨"GraveRails$Course", "takeTurn", "(I)V"⟩, 12), (⟨"GraveRails$Course", "fartherBy", "(I)I"⟩, 12), (⟨"GraveRails$Course", "fillWords", "(I)V"⟩, 12), (⟨"GraveRails$Rule", "worth", "(II[J)J"⟩, 7), (⟨"GraveRails$Course", "goStep", "(I)Z"⟩, 12), (⟨"GraveRails$Course", "laneRound", "(III)I"⟩, 12), (⟨"GraveRails$Course", "comeTo", "(III)V"⟩, 12), (⟨"GraveRails$Course", "moveStones", "()V"⟩, 12)]
theorem lw_r2 : ∀ q ∈ lw_privs_2, lw_okq q := List.forall_mem_cons.mpr ⟨lw_p16, List.forall_mem_cons.mpr ⟨lw_p17, List.forall_mem_cons.mpr ⟨lw_p18, List.forall_mem_cons.mpr ⟨lw_p19, List.forall_mem_cons.mpr ⟨lw_p20, List.forall_mem_cons.mpr ⟨lw_p21, List.forall_mem_cons.mpr ⟨lw_p22, List.forall_mem_cons.mpr ⟨lw_p23, List.forall_mem_cons.mpr ⟨lw_p24, List.forall_mem_cons.mpr ⟨lw_p25, List.forall_mem_cons.mpr ⟨lw_p26, List.forall_mem_cons.mpr ⟨lw_p27, List.forall_mem_cons.mpr ⟨lw_p28, List.forall_mem_cons.mpr ⟨lw_p29, List.forall_mem_cons.mpr ⟨lw_p30, List.forall_mem_cons.mpr ⟨lw_p31, fun _ h => absurd h List.not_mem_nil⟩⟩⟩⟩⟩⟩⟩⟩⟩⟩⟩⟩⟩⟩⟩⟩
theorem lw_p32 : lw_okq (⟨"GraveRails", "isFree", "(II)Z"⟩, 12) := ⟨⟨by decide +kernel, by decide +kernel⟩, List.mem_of_getElem? (i := 22) (by decide +kernel), List.mem_of_getElem? (i := 914) (by decide +kernel), List.mem_of_getElem? (i := 915) (by decide +kernel)⟩
theorem lw_p33 : lw_okq (⟨"GraveRails", "fallsWithOneDugAt", "(III)Z"⟩, 12) := ⟨⟨by decide +kernel, by decide +kernel⟩, List.mem_of_getElem? (i := 22) (by decide +kernel), List.mem_of_getElem? (i := 956) (by decide +kernel), List.mem_of_getElem? (i := 957) (by decide +kernel)⟩
theorem lw_p34 : lw_okq (⟨"GraveRails$Sets", "takeOpen", "()V"⟩, 11) := ⟨⟨by decide +kernel, by decide +kernel⟩, List.mem_of_getElem? (i := 389) (by decide +kernel), List.mem_of_getElem? (i := 992) (by decide +kernel), List.mem_of_getElem? (i := 993) (by decide +kernel)⟩
theorem lw_p35 : lw_okq (⟨"GraveRails$Sets", "isSeen", "(ILGraveRails$Sights;LGraveRails$Course;)Z"⟩, 11) := ⟨⟨by decide +kernel, by decide +kernel⟩, List.mem_of_getElem? (i := 389) (by decide +kernel), List.mem_of_getElem? (i := 996) (by decide +kernel), List.mem_of_getElem? (i := 997) (by decide +kernel)⟩
theorem lw_p36 : lw_okq (⟨"GraveRails$Sets", "startWith", "(ILGraveRails$Course;)V"⟩, 11) := ⟨⟨by decide +kernel, by decide +kernel⟩, List.mem_of_getElem? (i := 389) (by decide +kernel), List.mem_of_getElem? (i := 1000) (by decide +kernel), List.mem_of_getElem? (i := 1001) (by decide +kernel)⟩
theorem lw_p37 : lw_okq (⟨"GraveRails$Sets", "countCells", "(LGraveRails$State;)V"⟩, 11) := ⟨⟨by decide +kernel, by decide +kernel⟩, List.mem_of_getElem? (i := 389) (by decide +kernel), List.mem_of_getElem? (i := 1034) (by decide +kernel), List.mem_of_getElem? (i := 1035) (by decide +kernel)⟩
theorem lw_p38 : lw_okq (⟨"GraveRails$Sets", "mostAlike", "(I)I"⟩, 11) := ⟨⟨by decide +kernel, by decide +kernel⟩, List.mem_of_getElem? (i := 389) (by decide +kernel), List.mem_of_getElem? (i := 1039) (by decide +kernel), List.mem_of_getElem? (i := 1040) (by decide +kernel)⟩
theorem lw_p39 : lw_okq (⟨"GraveRails", "imageNumber", "(I)LGraveRails$World;"⟩, 12) := ⟨⟨by decide +kernel, by decide +kernel⟩, List.mem_of_getElem? (i := 22) (by decide +kernel), List.mem_of_getElem? (i := 1073) (by decide +kernel), List.mem_of_getElem? (i := 1074) (by decide +kernel)⟩
theorem lw_p40 : lw_okq (⟨"GraveRailsModel", "four", "(I)V"⟩, 40) := ⟨⟨by decide +kernel, by decide +kernel⟩, List.mem_of_getElem? (i := 1092) (by decide +kernel), List.mem_of_getElem? (i := 1224) (by decide +kernel), List.mem_of_getElem? (i := 1225) (by decide +kernel)⟩
theorem lw_p41 : lw_okq (⟨"GraveRailsModel", "readsAll", "()Z"⟩, 40) := ⟨⟨by decide +kernel, by decide +kernel⟩, List.mem_of_getElem? (i := 1092) (by decide +kernel), List.mem_of_getElem? (i := 1236) (by decide +kernel), List.mem_of_getElem? (i := 1237) (by decide +kernel)⟩
theorem lw_p42 : lw_okq (⟨"GraveRailsModel", "clauseHere", "()Z"⟩, 40) := ⟨⟨by decide +kernel, by decide +kernel⟩, List.mem_of_getElem? (i := 1092) (by decide +kernel), List.mem_of_getElem? (i := 1240) (by decide +kernel), List.mem_of_getElem? (i := 1241) (by decide +kernel)⟩
theorem lw_p43 : lw_okq (⟨"GraveRailsModel", "see", "()I"⟩, 40) := ⟨⟨by decide +kernel, by decide +kernel⟩, List.mem_of_getElem? (i := 1092) (by decide +kernel), List.mem_of_getElem? (i := 1244) (by decide +kernel), List.mem_of_getElem? (i := 1245) (by decide +kernel)⟩
theorem lw_p44 : lw_okq (⟨"GraveRailsModel", "isYardWord", "()Z"⟩, 40) := ⟨⟨by decide +kernel, by decide +kernel⟩, List.mem_of_getElem? (i := 1092) (by decide +kernel), List.mem_of_getElem? (i := 1248) (by decide +kernel), List.mem_of_getElem? (i := 1249) (by decide +kernel)⟩
theorem lw_p45 : lw_okq (⟨"GraveRailsModel", "isWord", "(J)Z"⟩, 40) := ⟨⟨by decide +kernel, by decide +kernel⟩, List.mem_of_getElem? (i := 1092) (by decide +kernel), List.mem_of_getElem? (i := 1253) (by decide +kernel), List.mem_of_getElem? (i := 1254) (by decide +kernel)⟩
theorem lw_p46 : lw_okq (⟨"GraveRailsModel", "isLetter", "(I)Z"⟩, 40) := ⟨⟨by decide +kernel, by decide +kernel⟩, List.mem_of_getElem? (i := 1092) (by decide +kernel), List.mem_of_getElem? (i := 1257) (by decide +kernel), List.mem_of_getElem? (i := 1258) (by decide +kernel)⟩
theorem lw_p47 : lw_okq (⟨"GraveRailsModel", "fails", "(II)Z"⟩, 40) := ⟨⟨by decide +kernel, by decide +kernel⟩, List.mem_of_getElem? (i := 1092) (by decide +kernel), List.mem_of_getElem? (i := 1267) (by decide +kernel), List.mem_of_getElem? (i := 1268) (by decide +kernel)⟩
def lw_privs_3 : List (MethodName × Nat) := [(⟨"GraveRails", "isFree", "(II)Z"⟩, 12), (⟨"GraveRails", "fallsWithOneDugAt", "(III)Z"⟩, 12), (⟨"GraveRails$Sets", "takeOpen", "()V"⟩, 11), (⟨"GraveRails$Sets", "isSeen", "(ILGraveRails$Sights;LGraveRails$Course;)Z"⟩, 11), (⟨"GraveRails$Sets", "startWith", "(ILGraveRails$Course;)V"⟩, 11), (⟨"GraveRails$Sets", "countCells", "(LGraveRails$State;)V"⟩, 11), (⟨"GraveRails$Sets", "mostAlike", "(I)I"⟩, 11), (⟨"GraveRails", "imageNumber", "(I)LGraveRails$World;"⟩, 12), (⟨"GraveRailsModel", "four", "(I)V"⟩, 40), (⟨"GraveRailsModel", "readsAll", "()Z"⟩, 40), (⟨"GraveRailsModel", "clauseHere", "()Z"⟩, 40), (⟨"GraveRailsModel", "see", "()I"⟩, 40), (⟨"GraveRailsModel", "isYardWord", "()Z"⟩, 40), (⟨"GraveRailsModel", "isWord", "(J)Z"⟩, 40), (⟨"GraveRailsModel", "isLetter", "(I)Z"⟩, 40), (⟨"GraveRailsModel", "fails", "(II)Z"⟩, 40)]
theorem lw_r3 : ∀ q ∈ lw_privs_3, lw_okq q := List.forall_mem_cons.mpr ⟨lw_p32, List.forall_mem_cons.mpr ⟨lw_p33, List.forall_mem_cons.mpr ⟨lw_p34, List.forall_mem_cons.mpr ⟨lw_p35, List.forall_mem_cons.mpr ⟨lw_p36, List.forall_mem_cons.mpr ⟨lw_p37, List.forall_mem_cons.mpr ⟨lw_p38, List.forall_mem_cons.mpr ⟨lw_p39, List.forall_mem_cons.mpr ⟨lw_p40, List.forall_mem_cons.mpr ⟨lw_p41, List.forall_mem_cons.mpr ⟨lw_p42, List.forall_mem_cons.mpr ⟨lw_p43, List.forall_mem_cons.mpr ⟨lw_p44, List.forall_mem_cons.mpr ⟨lw_p45, List.forall_mem_cons.mpr ⟨lw_p46, List.forall_mem_cons.mpr ⟨lw_p47, fun _ h => absurd h List.not_mem_nil⟩⟩⟩⟩⟩⟩⟩⟩⟩⟩⟩⟩⟩⟩⟩⟩
theorem lw_p48 : lw_okq (⟨"GraveRailsModel", "yardLineHere", "(I)Z"⟩, 40) := ⟨⟨by decide +kernel, by decide +kernel⟩, List.mem_of_getElem? (i := 1092) (by decide +kernel), List.mem_of_getElem? (i := 1271) (by decide +kernel), List.mem_of_getElem? (i := 1272) (by decide +kernel)⟩
theorem lw_p49 : lw_okq (⟨"GraveRailsModel", "isYardHere", "(I)Z"⟩, 40) := ⟨⟨by decide +kernel, by decide +kernel⟩, List.mem_of_getElem? (i := 1092) (by decide +kernel), List.mem_of_getElem? (i := 1275) (by decide +kernel), List.mem_of_getElem? (i := 1276) (by decide +kernel)⟩
theorem lw_p50 : lw_okq (⟨"GraveRailsModel", "passWord", "()V"⟩, 40) := ⟨⟨by decide +kernel, by decide +kernel⟩, List.mem_of_getElem? (i := 1092) (by decide +kernel), List.mem_of_getElem? (i := 1279) (by decide +kernel), List.mem_of_getElem? (i := 1280) (by decide +kernel)⟩
theorem lw_p51 : lw_okq (⟨"GraveRailsModel", "cellHere", "(III)Z"⟩, 40) := ⟨⟨by decide +kernel, by decide +kernel⟩, List.mem_of_getElem? (i := 1092) (by decide +kernel), List.mem_of_getElem? (i := 1283) (by decide +kernel), List.mem_of_getElem? (i := 1284) (by decide +kernel)⟩
theorem lw_p52 : lw_okq (⟨"GraveRailsModel", "numberHere", "(II)Z"⟩, 40) := ⟨⟨by decide +kernel, by decide +kernel⟩, List.mem_of_getElem? (i := 1092) (by decide +kernel), List.mem_of_getElem? (i := 1287) (by decide +kernel), List.mem_of_getElem? (i := 1288) (by decide +kernel)⟩
theorem lw_p53 : lw_okq (⟨"GraveRailsModel", "isDigit", "(I)Z"⟩, 40) := ⟨⟨by decide +kernel, by decide +kernel⟩, List.mem_of_getElem? (i := 1092) (by decide +kernel), List.mem_of_getElem? (i := 1291) (by decide +kernel), List.mem_of_getElem? (i := 1292) (by decide +kernel)⟩
theorem lw_p54 : lw_okq (⟨"GraveRailsModel", "isGraveHere", "(I)Z"⟩, 40) := ⟨⟨by decide +kernel, by decide +kernel⟩, List.mem_of_getElem? (i := 1092) (by decide +kernel), List.mem_of_getElem? (i := 1298) (by decide +kernel), List.mem_of_getElem? (i := 1299) (by decide +kernel)⟩
theorem lw_p55 : lw_okq (⟨"GraveRailsModel", "kindHere", "()I"⟩, 40) := ⟨⟨by decide +kernel, by decide +kernel⟩, List.mem_of_getElem? (i := 1092) (by decide +kernel), List.mem_of_getElem? (i := 1302) (by decide +kernel), List.mem_of_getElem? (i := 1303) (by decide +kernel)⟩
theorem lw_p56 : lw_okq (⟨"GraveRailsModel", "takesWord", "(J)Z"⟩, 40) := ⟨⟨by decide +kernel, by decide +kernel⟩, List.mem_of_getElem? (i := 1092) (by decide +kernel), List.mem_of_getElem? (i := 1307) (by decide +kernel), List.mem_of_getElem? (i := 1308) (by decide +kernel)⟩
theorem lw_p57 : lw_okq (⟨"GraveRailsModel", "isPairHere", "()Z"⟩, 40) := ⟨⟨by decide +kernel, by decide +kernel⟩, List.mem_of_getElem? (i := 1092) (by decide +kernel), List.mem_of_getElem? (i := 1314) (by decide +kernel), List.mem_of_getElem? (i := 1315) (by decide +kernel)⟩
theorem lw_p58 : lw_okq (⟨"GraveRailsModel", "singleHere", "()Z"⟩, 40) := ⟨⟨by decide +kernel, by decide +kernel⟩, List.mem_of_getElem? (i := 1092) (by decide +kernel), List.mem_of_getElem? (i := 1318) (by decide +kernel), List.mem_of_getElem? (i := 1319) (by decide +kernel)⟩
theorem lw_p59 : lw_okq (⟨"GraveRailsModel", "isRootHere", "(I)Z"⟩, 40) := ⟨⟨by decide +kernel, by decide +kernel⟩, List.mem_of_getElem? (i := 1092) (by decide +kernel), List.mem_of_getElem? (i := 1322) (by decide +kernel), List.mem_of_getElem? (i := 1323) (by decide +kernel)⟩
theorem lw_p60 : lw_okq (⟨"GraveRailsModel", "isHeavyHere", "()Z"⟩, 40) := ⟨⟨by decide +kernel, by decide +kernel⟩, List.mem_of_getElem? (i := 1092) (by decide +kernel), List.mem_of_getElem? (i := 1326) (by decide +kernel), List.mem_of_getElem? (i := 1327) (by decide +kernel)⟩
theorem lw_p61 : lw_okq (⟨"GraveRailsModel", "isFloodHere", "(I)Z"⟩, 40) := ⟨⟨by decide +kernel, by decide +kernel⟩, List.mem_of_getElem? (i := 1092) (by decide +kernel), List.mem_of_getElem? (i := 1330) (by decide +kernel), List.mem_of_getElem? (i := 1331) (by decide +kernel)⟩
theorem lw_p62 : lw_okq (⟨"GraveRailsModel", "isGoHere", "()Z"⟩, 40) := ⟨⟨by decide +kernel, by decide +kernel⟩, List.mem_of_getElem? (i := 1092) (by decide +kernel), List.mem_of_getElem? (i := 1334) (by decide +kernel), List.mem_of_getElem? (i := 1335) (by decide +kernel)⟩
theorem lw_p63 : lw_okq (⟨"GraveRailsModel", "sum", "()Z"⟩, 40) := ⟨⟨by decide +kernel, by decide +kernel⟩, List.mem_of_getElem? (i := 1092) (by decide +kernel), List.mem_of_getElem? (i := 1338) (by decide +kernel), List.mem_of_getElem? (i := 1339) (by decide +kernel)⟩
def lw_privs_4 : List (MethodName × Nat) := [(⟨"GraveRailsModel", "yardLineHere", "(I)Z"⟩, 40), (⟨"GraveRailsModel", "isYardHere", "(I)Z"⟩, 40), (⟨"GraveRailsModel", "passWord", "()V"⟩, 40), (⟨"GraveRailsModel", "cellHere", "(III)Z"⟩, 40), (⟨"GraveRailsModel", "numberHere", "(II)Z"⟩, 40), (⟨"GraveRailsModel", "isDigit", "(I)Z"⟩, 40), (⟨"GraveRailsModel", "isGraveHere", "(I)Z"⟩, 40), (⟨"GraveRailsModel", "kindHere", "()I"⟩, 40), (⟨"GraveRailsModel", "takesWord", "(J)Z"⟩, 40), (⟨"GraveRailsModel", "isPairHere", "()Z"⟩, 40), (⟨"GraveRailsModel", "singleHere", "()Z"⟩, 40), (⟨"GraveRailsModel", "isRootHere", "(I)Z"⟩, 40), (⟨"GraveRailsModel", "isHeavyHere", "()Z"⟩, 40), (⟨"GraveRailsModel", "isFloodHere", "(I)Z"⟩, 40), (⟨"GraveRailsModel", "isGoHere", "()Z"⟩, 40), (⟨"GraveRailsModel", "sum", "()Z"⟩, 40)]
theorem lw_r4 : ∀ q ∈ lw_privs_4, lw_okq q := List.forall_mem_cons.mpr ⟨lw_p48, List.forall_mem_cons.mpr ⟨lw_p49, List.forall_mem_cons.mpr ⟨lw_p50, List.forall_mem_cons.mpr ⟨lw_p51, List.forall_mem_cons.mpr ⟨lw_p52, List.forall_mem_cons.mpr ⟨lw_p53, List.forall_mem_cons.mpr ⟨lw_p54, List.forall_mem_cons.mpr ⟨lw_p55, List.forall_mem_cons.mpr ⟨lw_p56, List.forall_mem_cons.mpr ⟨lw_p57, List.forall_mem_cons.mpr ⟨lw_p58, List.forall_mem_cons.mpr ⟨lw_p59, List.forall_mem_cons.mpr ⟨lw_p60, List.forall_mem_cons.mpr ⟨lw_p61, List.forall_mem_cons.mpr ⟨lw_p62, List.forall_mem_cons.mpr ⟨lw_p63, fun _ h => absurd h List.not_mem_nil⟩⟩⟩⟩⟩⟩⟩⟩⟩⟩⟩⟩⟩⟩⟩⟩
theorem lw_p64 : lw_okq (⟨"GraveRailsModel", "term", "()Z"⟩, 40) := ⟨⟨by decide +kernel, by decide +kernel⟩, List.mem_of_getElem? (i := 1092) (by decide +kernel), List.mem_of_getElem? (i := 1342) (by decide +kernel), List.mem_of_getElem? (i := 1343) (by decide +kernel)⟩
theorem lw_p65 : lw_okq (⟨"GraveRailsModel", "value", "()Z"⟩, 40) := ⟨⟨by decide +kernel, by decide +kernel⟩, List.mem_of_getElem? (i := 1092) (by decide +kernel), List.mem_of_getElem? (i := 1346) (by decide +kernel), List.mem_of_getElem? (i := 1347) (by decide +kernel)⟩
theorem lw_p66 : lw_okq (⟨"GraveRailsModel", "makes", "(I)Z"⟩, 40) := ⟨⟨by decide +kernel, by decide +kernel⟩, List.mem_of_getElem? (i := 1092) (by decide +kernel), List.mem_of_getElem? (i := 1351) (by decide +kernel), List.mem_of_getElem? (i := 1352) (by decide +kernel)⟩
theorem lw_p67 : lw_okq (⟨"GraveRailsModel", "puts", "(II)V"⟩, 40) := ⟨⟨by decide +kernel, by decide +kernel⟩, List.mem_of_getElem? (i := 1092) (by decide +kernel), List.mem_of_getElem? (i := 1355) (by decide +kernel), List.mem_of_getElem? (i := 1356) (by decide +kernel)⟩
theorem lw_p68 : lw_okq (⟨"GraveRailsModel", "wordHere", "()I"⟩, 40) := ⟨⟨by decide +kernel, by decide +kernel⟩, List.mem_of_getElem? (i := 1092) (by decide +kernel), List.mem_of_getElem? (i := 1359) (by decide +kernel), List.mem_of_getElem? (i := 1360) (by decide +kernel)⟩
theorem lw_p69 : lw_okq (⟨"GraveRailsModel", "tested", "()Z"⟩, 40) := ⟨⟨by decide +kernel, by decide +kernel⟩, List.mem_of_getElem? (i := 1092) (by decide +kernel), List.mem_of_getElem? (i := 1371) (by decide +kernel), List.mem_of_getElem? (i := 1372) (by decide +kernel)⟩
theorem lw_p70 : lw_okq (⟨"GraveRailsModel", "fact", "()Z"⟩, 40) := ⟨⟨by decide +kernel, by decide +kernel⟩, List.mem_of_getElem? (i := 1092) (by decide +kernel), List.mem_of_getElem? (i := 1375) (by decide +kernel), List.mem_of_getElem? (i := 1376) (by decide +kernel)⟩
theorem lw_p71 : lw_okq (⟨"GraveRailsModel", "opens", "(I)Z"⟩, 40) := ⟨⟨by decide +kernel, by decide +kernel⟩, List.mem_of_getElem? (i := 1092) (by decide +kernel), List.mem_of_getElem? (i := 1380) (by decide +kernel), List.mem_of_getElem? (i := 1381) (by decide +kernel)⟩
theorem lw_p72 : lw_okq (⟨"GraveRailsModel", "compare", "()Z"⟩, 40) := ⟨⟨by decide +kernel, by decide +kernel⟩, List.mem_of_getElem? (i := 1092) (by decide +kernel), List.mem_of_getElem? (i := 1384) (by decide +kernel), List.mem_of_getElem? (i := 1385) (by decide +kernel)⟩
theorem lw_p73 : lw_okq (⟨"GraveRailsModel", "closes", "()V"⟩, 40) := ⟨⟨by decide +kernel, by decide +kernel⟩, List.mem_of_getElem? (i := 1092) (by decide +kernel), List.mem_of_getElem? (i := 1388) (by decide +kernel), List.mem_of_getElem? (i := 1389) (by decide +kernel)⟩
theorem lw_p74 : lw_okq (⟨"GraveRailsModel", "settles", "(I)V"⟩, 40) := ⟨⟨by decide +kernel, by decide +kernel⟩, List.mem_of_getElem? (i := 1092) (by decide +kernel), List.mem_of_getElem? (i := 1392) (by decide +kernel), List.mem_of_getElem? (i := 1393) (by decide +kernel)⟩
theorem lw_p75 : lw_okq (⟨"GraveRailsModel", "isInside", "()Z"⟩, 40) := ⟨⟨by decide +kernel, by decide +kernel⟩, List.mem_of_getElem? (i := 1092) (by decide +kernel), List.mem_of_getElem? (i := 1399) (by decide +kernel), List.mem_of_getElem? (i := 1400) (by decide +kernel)⟩
theorem lw_p76 : lw_okq (⟨"GraveRailsModel", "graveOf", "(II)I"⟩, 40) := ⟨⟨by decide +kernel, by decide +kernel⟩, List.mem_of_getElem? (i := 1092) (by decide +kernel), List.mem_of_getElem? (i := 1409) (by decide +kernel), List.mem_of_getElem? (i := 1410) (by decide +kernel)⟩
theorem lw_p77 : lw_okq (⟨"GraveRailsModel", "isRule", "(I)Z"⟩, 40) := ⟨⟨by decide +kernel, by decide +kernel⟩, List.mem_of_getElem? (i := 1092) (by decide +kernel), List.mem_of_getElem? (i := 1417) (by decide +kernel), List.mem_of_getElem? (i := 1418) (by decide +kernel)⟩
theorem lw_p78 : lw_okq (⟨"GraveRailsModel", "isGrave", "(I)Z"⟩, 40) := ⟨⟨by decide +kernel, by decide +kernel⟩, List.mem_of_getElem? (i := 1092) (by decide +kernel), List.mem_of_getElem? (i := 1425) (by decide +kernel), List.mem_of_getElem? (i := 1426) (by decide +kernel)⟩
theorem lw_p79 : lw_okq (⟨"GraveRailsModel", "graveAt", "(II)I"⟩, 40) := ⟨⟨by decide +kernel, by decide +kernel⟩, List.mem_of_getElem? (i := 1092) (by decide +kernel), List.mem_of_getElem? (i := 1435) (by decide +kernel), List.mem_of_getElem? (i := 1436) (by decide +kernel)⟩
def lw_privs_5 : List (MethodName × Nat) := [(⟨"GraveRailsModel", "term", "()Z"⟩, 40), (⟨"GraveRailsModel", "value", "()Z"⟩, 40), (⟨"GraveRailsModel", "makes", "(I)Z"⟩, 40), (⟨"GraveRailsModel", "puts", "(II)V"⟩, 40), (⟨"GraveRailsModel", "wordHere", "()I"⟩, 40), (⟨"GraveRailsModel", "tested", "()Z"⟩, 40), (⟨"GraveRailsModel", "fact", "()Z"⟩, 40), (⟨"GraveRailsModel", "opens", "(I)Z"⟩, 40), (⟨"GraveRailsModel", "compare", "()Z"⟩, 40), (⟨"GraveRailsModel", "closes", "()V"⟩, 40), (⟨"GraveRailsModel", "settles", "(I)V"⟩, 40), (⟨"GraveRailsModel", "isInside", "()Z"⟩, 40), (⟨"GraveRailsModel", "graveOf", "(II)I"⟩, 40), (⟨"GraveRailsModel", "isRule", "(I)Z"⟩, 40), (⟨"GraveRailsModel", "isGrave", "(I)Z"⟩, 40), (⟨"GraveRailsModel", "graveAt", "(II)I"⟩, 40)]
theorem lw_r5 : ∀ q ∈ lw_privs_5, lw_okq q := List.forall_mem_cons.mpr ⟨lw_p64, List.forall_mem_cons.mpr ⟨lw_p65, List.forall_mem_cons.mpr ⟨lw_p66, List.forall_mem_cons.mpr ⟨lw_p67, List.forall_mem_cons.mpr ⟨lw_p68, List.forall_mem_cons.mpr ⟨lw_p69, List.forall_mem_cons.mpr ⟨lw_p70, List.forall_mem_cons.mpr ⟨lw_p71, List.forall_mem_cons.mpr ⟨lw_p72, List.forall_mem_cons.mpr ⟨lw_p73, List.forall_mem_cons.mpr ⟨lw_p74, List.forall_mem_cons.mpr ⟨lw_p75, List.forall_mem_cons.mpr ⟨lw_p76, List.forall_mem_cons.mpr ⟨lw_p77, List.forall_mem_cons.mpr ⟨lw_p78, List.forall_mem_cons.mpr ⟨lw_p79, fun _ h => absurd h List.not_mem_nil⟩⟩⟩⟩⟩⟩⟩⟩⟩⟩⟩⟩⟩⟩⟩⟩
theorem lw_p80 : lw_okq (⟨"GraveRailsModel", "isPlace", "(II)Z"⟩, 40) := ⟨⟨by decide +kernel, by decide +kernel⟩, List.mem_of_getElem? (i := 1092) (by decide +kernel), List.mem_of_getElem? (i := 1443) (by decide +kernel), List.mem_of_getElem? (i := 1444) (by decide +kernel)⟩
theorem lw_p81 : lw_okq (⟨"GraveRailsModel", "rootAt", "(II)I"⟩, 40) := ⟨⟨by decide +kernel, by decide +kernel⟩, List.mem_of_getElem? (i := 1092) (by decide +kernel), List.mem_of_getElem? (i := 1451) (by decide +kernel), List.mem_of_getElem? (i := 1452) (by decide +kernel)⟩
theorem lw_p82 : lw_okq (⟨"GraveRailsModel", "isYard", "()Z"⟩, 40) := ⟨⟨by decide +kernel, by decide +kernel⟩, List.mem_of_getElem? (i := 1092) (by decide +kernel), List.mem_of_getElem? (i := 1463) (by decide +kernel), List.mem_of_getElem? (i := 1464) (by decide +kernel)⟩
theorem lw_p83 : lw_okq (⟨"GraveRailsModel", "keepsAct", "()V"⟩, 40) := ⟨⟨by decide +kernel, by decide +kernel⟩, List.mem_of_getElem? (i := 1092) (by decide +kernel), List.mem_of_getElem? (i := 1467) (by decide +kernel), List.mem_of_getElem? (i := 1468) (by decide +kernel)⟩
theorem lw_p84 : lw_okq (⟨"GraveRailsModel", "passes", "()I"⟩, 40) := ⟨⟨by decide +kernel, by decide +kernel⟩, List.mem_of_getElem? (i := 1092) (by decide +kernel), List.mem_of_getElem? (i := 1471) (by decide +kernel), List.mem_of_getElem? (i := 1472) (by decide +kernel)⟩
theorem lw_p85 : lw_okq (⟨"GraveRailsModel", "isFlood", "()Z"⟩, 40) := ⟨⟨by decide +kernel, by decide +kernel⟩, List.mem_of_getElem? (i := 1092) (by decide +kernel), List.mem_of_getElem? (i := 1475) (by decide +kernel), List.mem_of_getElem? (i := 1476) (by decide +kernel)⟩
theorem lw_p86 : lw_okq (⟨"GraveRailsModel", "sorts", "(I)V"⟩, 40) := ⟨⟨by decide +kernel, by decide +kernel⟩, List.mem_of_getElem? (i := 1092) (by decide +kernel), List.mem_of_getElem? (i := 1479) (by decide +kernel), List.mem_of_getElem? (i := 1480) (by decide +kernel)⟩
theorem lw_p87 : lw_okq (⟨"GraveRailsModel", "falls", "(I)V"⟩, 40) := ⟨⟨by decide +kernel, by decide +kernel⟩, List.mem_of_getElem? (i := 1092) (by decide +kernel), List.mem_of_getElem? (i := 1483) (by decide +kernel), List.mem_of_getElem? (i := 1484) (by decide +kernel)⟩
theorem lw_p88 : lw_okq (⟨"GraveRailsModel", "turns", "(I)V"⟩, 40) := ⟨⟨by decide +kernel, by decide +kernel⟩, List.mem_of_getElem? (i := 1092) (by decide +kernel), List.mem_of_getElem? (i := 1487) (by decide +kernel), List.mem_of_getElem? (i := 1488) (by decide +kernel)⟩
theorem lw_p89 : lw_okq (⟨"GraveRailsModel", "isNearer", "(I)Z"⟩, 40) := ⟨⟨by decide +kernel, by decide +kernel⟩, List.mem_of_getElem? (i := 1092) (by decide +kernel), List.mem_of_getElem? (i := 1491) (by decide +kernel), List.mem_of_getElem? (i := 1492) (by decide +kernel)⟩
theorem lw_p90 : lw_okq (⟨"GraveRailsModel", "isFallen", "(I)Z"⟩, 40) := ⟨⟨by decide +kernel, by decide +kernel⟩, List.mem_of_getElem? (i := 1092) (by decide +kernel), List.mem_of_getElem? (i := 1495) (by decide +kernel), List.mem_of_getElem? (i := 1496) (by decide +kernel)⟩
theorem lw_p91 : lw_okq (⟨"GraveRailsModel", "stepsOf", "(I)I"⟩, 40) := ⟨⟨by decide +kernel, by decide +kernel⟩, List.mem_of_getElem? (i := 1092) (by decide +kernel), List.mem_of_getElem? (i := 1499) (by decide +kernel), List.mem_of_getElem? (i := 1500) (by decide +kernel)⟩
theorem lw_p92 : lw_okq (⟨"GraveRailsModel", "behindOf", "(I)I"⟩, 40) := ⟨⟨by decide +kernel, by decide +kernel⟩, List.mem_of_getElem? (i := 1092) (by decide +kernel), List.mem_of_getElem? (i := 1503) (by decide +kernel), List.mem_of_getElem? (i := 1504) (by decide +kernel)⟩
theorem lw_p93 : lw_okq (⟨"GraveRailsModel", "fallenMany", "()I"⟩, 40) := ⟨⟨by decide +kernel, by decide +kernel⟩, List.mem_of_getElem? (i := 1092) (by decide +kernel), List.mem_of_getElem? (i := 1507) (by decide +kernel), List.mem_of_getElem? (i := 1508) (by decide +kernel)⟩
theorem lw_p94 : lw_okq (⟨"GraveRailsModel", "reckons", "(III)J"⟩, 40) := ⟨⟨by decide +kernel, by decide +kernel⟩, List.mem_of_getElem? (i := 1092) (by decide +kernel), List.mem_of_getElem? (i := 1511) (by decide +kernel), List.mem_of_getElem? (i := 1512) (by decide +kernel)⟩
theorem lw_p95 : lw_okq (⟨"GraveRailsModel", "push", "(J)V"⟩, 40) := ⟨⟨by decide +kernel, by decide +kernel⟩, List.mem_of_getElem? (i := 1092) (by decide +kernel), List.mem_of_getElem? (i := 1515) (by decide +kernel), List.mem_of_getElem? (i := 1516) (by decide +kernel)⟩
def lw_privs_6 : List (MethodName × Nat) := [(⟨"GraveRailsModel", "isPlace", "(II)Z"⟩, 40), (⟨"GraveRailsModel", "rootAt", "(II)I"⟩, 40), (⟨"GraveRailsModel", "isYard", "()Z"⟩, 40), (⟨"GraveRailsModel", "keepsAct", "()V"⟩, 40), (⟨"GraveRailsModel", "passes", "()I"⟩, 40), (⟨"GraveRailsModel", "isFlood", "()Z"⟩, 40), (⟨"GraveRailsModel", "sorts", "(I)V"⟩, 40), (⟨"GraveRailsModel", "falls", "(I)V"⟩, 40), (⟨"GraveRailsModel", "turns", "(I)V"⟩, 40), (⟨"GraveRailsModel", "isNearer", "(I)Z"⟩, 40), (⟨"GraveRailsModel", "isFallen", "(I)Z"⟩, 40), (⟨"GraveRailsModel", "stepsOf", "(I)I"⟩, 40), (⟨"GraveRailsModel", "behindOf", "(I)I"⟩, 40), (⟨"GraveRailsModel", "fallenMany", "()I"⟩, 40), (⟨"GraveRailsModel", "reckons", "(III)J"⟩, 40), (⟨"GraveRailsModel", "push", "(J)V"⟩, 40)]
theorem lw_r6 : ∀ q ∈ lw_privs_6, lw_okq q := List.forall_mem_cons.mpr ⟨lw_p80, List.forall_mem_cons.mpr ⟨lw_p81, List.forall_mem_cons.mpr ⟨lw_p82, List.forall_mem_cons.mpr ⟨lw_p83, List.forall_mem_cons.mpr ⟨lw_p84, List.forall_mem_cons.mpr ⟨lw_p85, List.forall_mem_cons.mpr ⟨lw_p86, List.forall_mem_cons.mpr ⟨lw_p87, List.forall_mem_cons.mpr ⟨lw_p88, List.forall_mem_cons.mpr ⟨lw_p89, List.forall_mem_cons.mpr ⟨lw_p90, List.forall_mem_cons.mpr ⟨lw_p91, List.forall_mem_cons.mpr ⟨lw_p92, List.forall_mem_cons.mpr ⟨lw_p93, List.forall_mem_cons.mpr ⟨lw_p94, List.forall_mem_cons.mpr ⟨lw_p95, fun _ h => absurd h List.not_mem_nil⟩⟩⟩⟩⟩⟩⟩⟩⟩⟩⟩⟩⟩⟩⟩⟩
theorem lw_p96 : lw_okq (⟨"GraveRailsModel", "pop", "()J"⟩, 40) := ⟨⟨by decide +kernel, by decide +kernel⟩, List.mem_of_getElem? (i := 1092) (by decide +kernel), List.mem_of_getElem? (i := 1519) (by decide +kernel), List.mem_of_getElem? (i := 1520) (by decide +kernel)⟩
theorem lw_p97 : lw_okq (⟨"GraveRailsModel", "steps", "(I)Z"⟩, 40) := ⟨⟨by decide +kernel, by decide +kernel⟩, List.mem_of_getElem? (i := 1092) (by decide +kernel), List.mem_of_getElem? (i := 1527) (by decide +kernel), List.mem_of_getElem? (i := 1528) (by decide +kernel)⟩
theorem lw_p98 : lw_okq (⟨"GraveRailsModel", "comesInto", "(III)Z"⟩, 40) := ⟨⟨by decide +kernel, by decide +kernel⟩, List.mem_of_getElem? (i := 1092) (by decide +kernel), List.mem_of_getElem? (i := 1531) (by decide +kernel), List.mem_of_getElem? (i := 1532) (by decide +kernel)⟩
theorem lw_p99 : lw_okq (⟨"GraveRailsModel", "isFree", "(II)Z"⟩, 40) := ⟨⟨by decide +kernel, by decide +kernel⟩, List.mem_of_getElem? (i := 1092) (by decide +kernel), List.mem_of_getElem? (i := 1535) (by decide +kernel), List.mem_of_getElem? (i := 1536) (by decide +kernel)⟩
theorem lw_p100 : lw_okq (⟨"GraveRailsModel", "stonesGo", "()V"⟩, 40) := ⟨⟨by decide +kernel, by decide +kernel⟩, List.mem_of_getElem? (i := 1092) (by decide +kernel), List.mem_of_getElem? (i := 1539) (by decide +kernel), List.mem_of_getElem? (i := 1540) (by decide +kernel)⟩
theorem lw_p101 : lw_okq (⟨"GraveRailsModel", "digs", "(III)V"⟩, 40) := ⟨⟨by decide +kernel, by decide +kernel⟩, List.mem_of_getElem? (i := 1092) (by decide +kernel), List.mem_of_getElem? (i := 1547) (by decide +kernel), List.mem_of_getElem? (i := 1548) (by decide +kernel)⟩
theorem lw_p102 : lw_okq (⟨"GraveRailsModel", "freezes", "(IZ)I"⟩, 40) := ⟨⟨by decide +kernel, by decide +kernel⟩, List.mem_of_getElem? (i := 1092) (by decide +kernel), List.mem_of_getElem? (i := 1559) (by decide +kernel), List.mem_of_getElem? (i := 1560) (by decide +kernel)⟩
theorem lw_p103 : lw_okq (⟨"GraveRailsModel", "keeps", "()V"⟩, 40) := ⟨⟨by decide +kernel, by decide +kernel⟩, List.mem_of_getElem? (i := 1092) (by decide +kernel), List.mem_of_getElem? (i := 1568) (by decide +kernel), List.mem_of_getElem? (i := 1569) (by decide +kernel)⟩
theorem lw_p104 : lw_okq (⟨"GraveRailsModel", "laysBack", "()V"⟩, 40) := ⟨⟨by decide +kernel, by decide +kernel⟩, List.mem_of_getElem? (i := 1092) (by decide +kernel), List.mem_of_getElem? (i := 1572) (by decide +kernel), List.mem_of_getElem? (i := 1573) (by decide +kernel)⟩
theorem lw_p105 : lw_okq (⟨"GraveRailsModel", "fallOf", "(I)I"⟩, 40) := ⟨⟨by decide +kernel, by decide +kernel⟩, List.mem_of_getElem? (i := 1092) (by decide +kernel), List.mem_of_getElem? (i := 1580) (by decide +kernel), List.mem_of_getElem? (i := 1581) (by decide +kernel)⟩
theorem lw_p106 : lw_okq (⟨"GraveRailsModel", "areAbreast", "(II)Z"⟩, 40) := ⟨⟨by decide +kernel, by decide +kernel⟩, List.mem_of_getElem? (i := 1092) (by decide +kernel), List.mem_of_getElem? (i := 1588) (by decide +kernel), List.mem_of_getElem? (i := 1589) (by decide +kernel)⟩
theorem lw_p107 : lw_okq (⟨"GraveRailsModel", "fallTogether", "(III)Z"⟩, 40) := ⟨⟨by decide +kernel, by decide +kernel⟩, List.mem_of_getElem? (i := 1092) (by decide +kernel), List.mem_of_getElem? (i := 1597) (by decide +kernel), List.mem_of_getElem? (i := 1598) (by decide +kernel)⟩
theorem lw_p108 : lw_okq (⟨"GraveRailsModel", "gathersFit", "()V"⟩, 40) := ⟨⟨by decide +kernel, by decide +kernel⟩, List.mem_of_getElem? (i := 1092) (by decide +kernel), List.mem_of_getElem? (i := 1614) (by decide +kernel), List.mem_of_getElem? (i := 1615) (by decide +kernel)⟩
theorem lw_p109 : lw_okq (⟨"GraveRailsModel", "inQuestion", "()I"⟩, 40) := ⟨⟨by decide +kernel, by decide +kernel⟩, List.mem_of_getElem? (i := 1092) (by decide +kernel), List.mem_of_getElem? (i := 1618) (by decide +kernel), List.mem_of_getElem? (i := 1619) (by decide +kernel)⟩
theorem lw_p110 : lw_okq (⟨"GraveRailsModel", "fitsSights", "(I)Z"⟩, 40) := ⟨⟨by decide +kernel, by decide +kernel⟩, List.mem_of_getElem? (i := 1092) (by decide +kernel), List.mem_of_getElem? (i := 1622) (by decide +kernel), List.mem_of_getElem? (i := 1623) (by decide +kernel)⟩
theorem lw_p111 : lw_okq (⟨"GraveRailsModel", "beginsBy", "(I)V"⟩, 40) := ⟨⟨by decide +kernel, by decide +kernel⟩, List.mem_of_getElem? (i := 1092) (by decide +kernel), List.mem_of_getElem? (i := 1626) (by decide +kernel), List.mem_of_getElem? (i := 1627) (by decide +kernel)⟩
def lw_privs_7 : List (MethodName × Nat) := [(⟨"GraveRailsModel", "pop", "()J"⟩, 40), (⟨"GraveRailsModel", "steps", "(I)Z"⟩, 40), (⟨"GraveRailsModel", "comesInto", "(III)Z"⟩, 40), (⟨"GraveRailsModel", "isFree", "(II)Z"⟩, 40), (⟨"GraveRailsModel", "stonesGo", "()V"⟩, 40), (⟨"GraveRailsModel", "digs", "(III)V"⟩, 40), (⟨"GraveRailsModel", "freezes", "(IZ)I"⟩, 40), (⟨"GraveRailsModel", "keeps", "()V"⟩, 40), (⟨"GraveRailsModel", "laysBack", "()V"⟩, 40), (⟨"GraveRailsModel", "fallOf", "(I)I"⟩, 40), (⟨"GraveRailsModel", "areAbreast", "(II)Z"⟩, 40), (⟨"GraveRailsModel", "fallTogether", "(III)Z"⟩, 40), (⟨"GraveRailsModel", "gathersFit", "()V"⟩, 40), (⟨"GraveRailsModel", "inQuestion", "()I"⟩, 40), (⟨"GraveRailsModel", "fitsSights", "(I)Z"⟩, 40), (⟨"GraveRailsModel", "beginsBy", "(I)V"⟩, 40)]
theorem lw_r7 : ∀ q ∈ lw_privs_7, lw_okq q := List.forall_mem_cons.mpr ⟨lw_p96, List.forall_mem_cons.mpr ⟨lw_p97, List.forall_mem_cons.mpr ⟨lw_p98, List.forall_mem_cons.mpr ⟨lw_p99, List.forall_mem_cons.mpr ⟨lw_p100, List.forall_mem_cons.mpr ⟨lw_p101, List.forall_mem_cons.mpr ⟨lw_p102, List.forall_mem_cons.mpr ⟨lw_p103, List.forall_mem_cons.mpr ⟨lw_p104, List.forall_mem_cons.mpr ⟨lw_p105, List.forall_mem_cons.mpr ⟨lw_p106, List.forall_mem_cons.mpr ⟨lw_p107, List.forall_mem_cons.mpr ⟨lw_p108, List.forall_mem_cons.mpr ⟨lw_p109, List.forall_mem_cons.mpr ⟨lw_p110, List.forall_mem_cons.mpr ⟨lw_p111, fun _ h => absurd h List.not_mem_nil⟩⟩⟩⟩⟩⟩⟩⟩⟩⟩⟩⟩⟩⟩⟩⟩
theorem lw_p112 : lw_okq (⟨"GraveRailsModel", "lastSight", "()I"⟩, 40) := ⟨⟨by decide +kernel, by decide +kernel⟩, List.mem_of_getElem? (i := 1092) (by decide +kernel), List.mem_of_getElem? (i := 1633) (by decide +kernel), List.mem_of_getElem? (i := 1634) (by decide +kernel)⟩
theorem lw_p113 : lw_okq (⟨"GraveRailsModel", "isSeenSo", "()Z"⟩, 40) := ⟨⟨by decide +kernel, by decide +kernel⟩, List.mem_of_getElem? (i := 1092) (by decide +kernel), List.mem_of_getElem? (i := 1637) (by decide +kernel), List.mem_of_getElem? (i := 1638) (by decide +kernel)⟩
theorem lw_p114 : lw_okq (⟨"GraveRailsModel", "countsCells", "(I)V"⟩, 40) := ⟨⟨by decide +kernel, by decide +kernel⟩, List.mem_of_getElem? (i := 1092) (by decide +kernel), List.mem_of_getElem? (i := 1645) (by decide +kernel), List.mem_of_getElem? (i := 1646) (by decide +kernel)⟩
theorem lw_p115 : lw_okq (⟨"GraveRailsModel", "draw", "(I)I"⟩, 40) := ⟨⟨by decide +kernel, by decide +kernel⟩, List.mem_of_getElem? (i := 1092) (by decide +kernel), List.mem_of_getElem? (i := 1669) (by decide +kernel), List.mem_of_getElem? (i := 1670) (by decide +kernel)⟩
def lw_privs_8 : List (MethodName × Nat) := [(⟨"GraveRailsModel", "lastSight", "()I"⟩, 40), (⟨"GraveRailsModel", "isSeenSo", "()Z"⟩, 40), (⟨"GraveRailsModel", "countsCells", "(I)V"⟩, 40), (⟨"GraveRailsModel", "draw", "(I)I"⟩, 40)]
theorem lw_r8 : ∀ q ∈ lw_privs_8, lw_okq q := List.forall_mem_cons.mpr ⟨lw_p112, List.forall_mem_cons.mpr ⟨lw_p113, List.forall_mem_cons.mpr ⟨lw_p114, List.forall_mem_cons.mpr ⟨lw_p115, fun _ h => absurd h List.not_mem_nil⟩⟩⟩⟩
def lw_privs : List (MethodName × Nat) := lw_privs_1 ++ (lw_privs_2 ++ (lw_privs_3 ++ (lw_privs_4 ++ (lw_privs_5 ++ (lw_privs_6 ++ (lw_privs_7 ++ (lw_privs_8)))))))
def lw_tbl : List Cond := k2_sels lw_privs ++ tables_1
theorem lw_privs_ok : ∀ q ∈ lw_privs, lw_okq q := by
  show ∀ q ∈ lw_privs_1 ++ (lw_privs_2 ++ (lw_privs_3 ++ (lw_privs_4 ++ (lw_privs_5 ++ (lw_privs_6 ++ (lw_privs_7 ++ (lw_privs_8))))))), lw_okq q
  exact List.forall_mem_append.mpr ⟨lw_r1, List.forall_mem_append.mpr ⟨lw_r2, List.forall_mem_append.mpr ⟨lw_r3, List.forall_mem_append.mpr ⟨lw_r4, List.forall_mem_append.mpr ⟨lw_r5, List.forall_mem_append.mpr ⟨lw_r6, List.forall_mem_append.mpr ⟨lw_r7, lw_r8⟩⟩⟩⟩⟩⟩⟩
-- ===== the words that every method carries: those of the tables that stay good =====
def mm_gw : List Cond := lw_tbl.filter goodWord
theorem mm_gw_good {w : Cond} (h : w ∈ mm_gw) : goodWord w = true := (List.mem_filter.mp h).2
theorem mm_gw_tbl {w : Cond} (h : w ∈ mm_gw) : w ∈ lw_tbl := (List.mem_filter.mp h).1
theorem mm_h1 {w : Cond} {a : List Cond} (h : w ∈ a) (hg : goodWord w = true) (k : ∀ x, x ∈ a → x ∈ tables_1) : w ∈ mm_gw := List.mem_filter.mpr ⟨List.mem_append_right _ (k w h), hg⟩
theorem mm_t1 {w : Cond} {i : Nat} (h : tables_1_1[i]? = some w) (hg : goodWord w = true) : w ∈ mm_gw := mm_h1 (List.mem_of_getElem? h) hg (fun _ q => List.mem_append_left _ q)
theorem mm_t2 {w : Cond} {i : Nat} (h : tables_1_2[i]? = some w) (hg : goodWord w = true) : w ∈ mm_gw := mm_h1 (List.mem_of_getElem? h) hg (fun _ q => List.mem_append_right _ (List.mem_append_left _ q))
theorem mm_t3 {w : Cond} {i : Nat} (h : tables_1_3[i]? = some w) (hg : goodWord w = true) : w ∈ mm_gw := mm_h1 (List.mem_of_getElem? h) hg (fun _ q => List.mem_append_right _ (List.mem_append_right _ (List.mem_append_left _ q)))
theorem mm_t4 {w : Cond} {i : Nat} (h : tables_1_4[i]? = some w) (hg : goodWord w = true) : w ∈ mm_gw := mm_h1 (List.mem_of_getElem? h) hg (fun _ q => List.mem_append_right _ (List.mem_append_right _ (List.mem_append_right _ (List.mem_append_left _ q))))
theorem mm_t5 {w : Cond} {i : Nat} (h : tables_1_5[i]? = some w) (hg : goodWord w = true) : w ∈ mm_gw := mm_h1 (List.mem_of_getElem? h) hg (fun _ q => List.mem_append_right _ (List.mem_append_right _ (List.mem_append_right _ (List.mem_append_right _ (List.mem_append_left _ q)))))
theorem mm_t6 {w : Cond} {i : Nat} (h : tables_1_6[i]? = some w) (hg : goodWord w = true) : w ∈ mm_gw := mm_h1 (List.mem_of_getElem? h) hg (fun _ q => List.mem_append_right _ (List.mem_append_right _ (List.mem_append_right _ (List.mem_append_right _ (List.mem_append_right _ (List.mem_append_left _ q))))))
theorem mm_t7 {w : Cond} {i : Nat} (h : tables_1_7[i]? = some w) (hg : goodWord w = true) : w ∈ mm_gw := mm_h1 (List.mem_of_getElem? h) hg (fun _ q => List.mem_append_right _ (List.mem_append_right _ (List.mem_append_right _ (List.mem_append_right _ (List.mem_append_right _ (List.mem_append_right _ (List.mem_append_left _ q)))))))
theorem mm_t8 {w : Cond} {i : Nat} (h : tables_1_8[i]? = some w) (hg : goodWord w = true) : w ∈ mm_gw := mm_h1 (List.mem_of_getElem? h) hg (fun _ q => List.mem_append_right _ (List.mem_append_right _ (List.mem_append_right _ (List.mem_append_right _ (List.mem_append_right _ (List.mem_append_right _ (List.mem_append_right _ (q))))))))
theorem mm_u1 {w : Cond} {i : Nat} (h : tables_1_1[i]? = some w) : w ∈ lw_tbl := List.mem_append_right _ (List.mem_append_left _ (List.mem_of_getElem? h))
theorem mm_u2 {w : Cond} {i : Nat} (h : tables_1_2[i]? = some w) : w ∈ lw_tbl := List.mem_append_right _ (List.mem_append_right _ (List.mem_append_left _ (List.mem_of_getElem? h)))
theorem mm_u3 {w : Cond} {i : Nat} (h : tables_1_3[i]? = some w) : w ∈ lw_tbl := List.mem_append_right _ (List.mem_append_right _ (List.mem_append_right _ (List.mem_append_left _ (List.mem_of_getElem? h))))
theorem mm_u4 {w : Cond} {i : Nat} (h : tables_1_4[i]? = some w) : w ∈ lw_tbl := List.mem_append_right _ (List.mem_append_right _ (List.mem_append_right _ (List.mem_append_right _ (List.mem_append_left _ (List.mem_of_getElem? h)))))
theorem mm_u5 {w : Cond} {i : Nat} (h : tables_1_5[i]? = some w) : w ∈ lw_tbl := List.mem_append_right _ (List.mem_append_right _ (List.mem_append_right _ (List.mem_append_right _ (List.mem_append_right _ (List.mem_append_left _ (List.mem_of_getElem? h))))))
theorem mm_u6 {w : Cond} {i : Nat} (h : tables_1_6[i]? = some w) : w ∈ lw_tbl := List.mem_append_right _ (List.mem_append_right _ (List.mem_append_right _ (List.mem_append_right _ (List.mem_append_right _ (List.mem_append_right _ (List.mem_append_left _ (List.mem_of_getElem? h)))))))
theorem mm_u7 {w : Cond} {i : Nat} (h : tables_1_7[i]? = some w) : w ∈ lw_tbl := List.mem_append_right _ (List.mem_append_right _ (List.mem_append_right _ (List.mem_append_right _ (List.mem_append_right _ (List.mem_append_right _ (List.mem_append_right _ (List.mem_append_left _ (List.mem_of_getElem? h))))))))
theorem mm_u8 {w : Cond} {i : Nat} (h : tables_1_8[i]? = some w) : w ∈ lw_tbl := List.mem_append_right _ (List.mem_append_right _ (List.mem_append_right _ (List.mem_append_right _ (List.mem_append_right _ (List.mem_append_right _ (List.mem_append_right _ (List.mem_append_right _ (List.mem_of_getElem? h))))))))
theorem mm_s1 {q : MethodName × Nat} {i : Nat} (h : lw_privs_1[i]? = some q) : Cond.selects q.1.cls q.1 q.1 ∈ mm_gw := List.mem_filter.mpr ⟨List.mem_append_left _ (List.mem_map.mpr ⟨q, List.mem_append_left _ (List.mem_of_getElem? h), rfl⟩), rfl⟩
theorem mm_s2 {q : MethodName × Nat} {i : Nat} (h : lw_privs_2[i]? = some q) : Cond.selects q.1.cls q.1 q.1 ∈ mm_gw := List.mem_filter.mpr ⟨List.mem_append_left _ (List.mem_map.mpr ⟨q, List.mem_append_right _ (List.mem_append_left _ (List.mem_of_getElem? h)), rfl⟩), rfl⟩
theorem mm_s3 {q : MethodName × Nat} {i : Nat} (h : lw_privs_3[i]? = some q) : Cond.selects q.1.cls q.1 q.1 ∈ mm_gw := List.mem_filter.mpr ⟨List.mem_append_left _ (List.mem_map.mpr ⟨q, List.mem_append_right _ (List.mem_append_right _ (List.mem_append_left _ (List.mem_of_getElem? h))), rfl⟩), rfl⟩
theorem mm_s4 {q : MethodName × Nat} {i : Nat} (h : lw_privs_4[i]? = some q) : Cond.selects q.1.cls q.1 q.1 ∈ mm_gw := List.mem_filter.mpr ⟨List.mem_append_left _ (List.mem_map.mpr ⟨q, List.mem_append_right _ (List.mem_append_right _ (List.mem_append_right _ (List.mem_append_left _ (List.mem_of_getElem? h)))), rfl⟩), rfl⟩
theorem mm_s5 {q : MethodName × Nat} {i : Nat} (h : lw_privs_5[i]? = some q) : Cond.selects q.1.cls q.1 q.1 ∈ mm_gw := List.mem_filter.mpr ⟨List.mem_append_left _ (List.mem_map.mpr ⟨q, List.mem_append_right _ (List.mem_append_right _ (List.mem_append_right _ (List.mem_append_right _ (List.mem_append_left _ (List.mem_of_getElem? h))))), rfl⟩), rfl⟩
theorem mm_s6 {q : MethodName × Nat} {i : Nat} (h : lw_privs_6[i]? = some q) : Cond.selects q.1.cls q.1 q.1 ∈ mm_gw := List.mem_filter.mpr ⟨List.mem_append_left _ (List.mem_map.mpr ⟨q, List.mem_append_right _ (List.mem_append_right _ (List.mem_append_right _ (List.mem_append_right _ (List.mem_append_right _ (List.mem_append_left _ (List.mem_of_getElem? h)))))), rfl⟩), rfl⟩
theorem mm_s7 {q : MethodName × Nat} {i : Nat} (h : lw_privs_7[i]? = some q) : Cond.selects q.1.cls q.1 q.1 ∈ mm_gw := List.mem_filter.mpr ⟨List.mem_append_left _ (List.mem_map.mpr ⟨q, List.mem_append_right _ (List.mem_append_right _ (List.mem_append_right _ (List.mem_append_right _ (List.mem_append_right _ (List.mem_append_right _ (List.mem_append_left _ (List.mem_of_getElem? h))))))), rfl⟩), rfl⟩
theorem mm_s8 {q : MethodName × Nat} {i : Nat} (h : lw_privs_8[i]? = some q) : Cond.selects q.1.cls q.1 q.1 ∈ mm_gw := List.mem_filter.mpr ⟨List.mem_append_left _ (List.mem_map.mpr ⟨q, List.mem_append_right _ (List.mem_append_right _ (List.mem_append_right _ (List.mem_append_right _ (List.mem_append_right _ (List.mem_append_right _ (List.mem_append_right _ (List.mem_of_getElem? h))))))), rfl⟩), rfl⟩
theorem mm_wsl {C : String} {T : u_T} {N : Nat} (L : List Nat) (hL : List.range N = L) (h : ∀ k ∈ L, u_lay C T k ∈ mm_gw) : ∀ w ∈ u_ws C T N, w ∈ mm_gw := by
  intro w hw
  obtain ⟨k, hk, rfl⟩ := List.mem_map.mp hw
  rw [hL] at hk
  exact h k hk
def mm_T0 : u_T := fun k => match k with
  | 0 => ("GraveRails", "tape", "LGraveRails$Text;", true)
  | 1 => ("GraveRails", "yardReader", "LGraveRails$YardReader;", true)
  | 2 => ("GraveRails", "ruleReader", "LGraveRails$RuleReader;", true)
  | 3 => ("GraveRails", "rules", "[LGraveRails$Rule;", true)
  | 4 => ("GraveRails", "ruleCount", "I", false)
  | 5 => ("GraveRails", "now", "LGraveRails$World;", true)
  | 6 => ("GraveRails", "images", "[LGraveRails$World;", true)
  | 7 => ("GraveRails", "acts", "LGraveRails$Acts;", true)
  | 8 => ("GraveRails", "course", "LGraveRails$Course;", true)
  | 9 => ("GraveRails", "sets", "LGraveRails$Sets;", true)
  | 10 => ("GraveRails", "bareYard", "LGraveRails$Yard;", true)
  | _ => ("GraveRails", "bareState", "LGraveRails$State;", true)
def mm_T1 : u_T := fun k => match k with
  | 0 => ("GraveRails$Acts", "size", "I", false)
  | 1 => ("GraveRails$Acts", "next", "I", false)
  | _ => ("GraveRails$Acts", "before", "[LGraveRails$State;", true)
def mm_T2 : u_T := fun k => match k with
  | 0 => ("GraveRails$Course", "state", "LGraveRails$State;", true)
  | 1 => ("GraveRails$Course", "fell", "[I", true)
  | 2 => ("GraveRails$Course", "falls", "I", false)
  | 3 => ("GraveRails$Course", "fallsByFlood", "I", false)
  | 4 => ("GraveRails$Course", "floodDrawn", "Z", false)
  | 5 => ("GraveRails$Course", "yard", "LGraveRails$Yard;", false)
  | 6 => ("GraveRails$Course", "rule", "LGraveRails$Rule;", false)
  | 7 => ("GraveRails$Course", "flood", "Z", false)
  | 8 => ("GraveRails$Course", "turns", "[I", true)
  | 9 => ("GraveRails$Course", "places", "[I", true)
  | 10 => ("GraveRails$Course", "turnCount", "I", false)
  | _ => ("GraveRails$Course", "words", "[J", true)
def mm_T3 : u_T := fun k => match k with
  | 0 => ("GraveRails$Rule", "program", "[I", true)
  | 1 => ("GraveRails$Rule", "size", "I", false)
  | 2 => ("GraveRails$Rule", "sumFrom", "[I", true)
  | 3 => ("GraveRails$Rule", "testFrom", "[I", true)
  | 4 => ("GraveRails$Rule", "clauseEnd", "[I", true)
  | 5 => ("GraveRails$Rule", "clauses", "I", false)
  | _ => ("GraveRails$Rule", "stack", "[J", true)
def mm_T4 : u_T := fun k => match k with
  | 0 => ("GraveRails$RuleReader", "text", "LGraveRails$Text;", true)
  | 1 => ("GraveRails$RuleReader", "told", "LGraveRails$Rule;", false)
  | _ => ("GraveRails$RuleReader", "counted", "I", false)
def mm_T5 : u_T := fun k => match k with
  | 0 => ("GraveRails$Sets", "known", "Z", false)
  | 1 => ("GraveRails$Sets", "size", "I", false)
  | 2 => ("GraveRails$Sets", "partedIn", "I", false)
  | 3 => ("GraveRails$Sets", "best", "I", false)
  | 4 => ("GraveRails$Sets", "bestAlike", "I", false)
  | 5 => ("GraveRails$Sets", "found", "[I", true)
  | 6 => ("GraveRails$Sets", "open", "I", false)
  | 7 => ("GraveRails$Sets", "alike", "[I", true)
  | 8 => ("GraveRails$Sets", "yard", "LGraveRails$Yard;", false)
  | 9 => ("GraveRails$Sets", "rule", "LGraveRails$Rule;", false)
  | _ => ("GraveRails$Sets", "told", "LGraveRails$State;", true)
def mm_T6 : u_T := fun k => match k with
  | 0 => ("GraveRails$Sights", "size", "I", false)
  | 1 => ("GraveRails$Sights", "grave", "[I", true)
  | 2 => ("GraveRails$Sights", "cell", "[I", true)
  | _ => ("GraveRails$Sights", "year", "[I", true)
def mm_T7 : u_T := fun k => match k with
  | 0 => ("GraveRails$State", "year", "I", false)
  | 1 => ("GraveRails$State", "graves", "I", false)
  | 2 => ("GraveRails$State", "fallen", "I", false)
  | 3 => ("GraveRails$State", "lane", "[I", true)
  | 4 => ("GraveRails$State", "cell", "[I", true)
  | 5 => ("GraveRails$State", "kind", "[I", true)
  | 6 => ("GraveRails$State", "held", "[I", true)
  | 7 => ("GraveRails$State", "fellIn", "[I", true)
  | 8 => ("GraveRails$State", "dugIn", "[I", true)
  | 9 => ("GraveRails$State", "rounds", "[I", true)
  | 10 => ("GraveRails$State", "stoneLane", "[I", true)
  | _ => ("GraveRails$State", "stoneCell", "[I", true)
def mm_T8 : u_T := fun k => match k with
  | 0 => ("GraveRails$Text", "bytes", "[B", true)
  | 1 => ("GraveRails$Text", "size", "I", false)
  | 2 => ("GraveRails$Text", "place", "I", false)
  | 3 => ("GraveRails$Text", "behind", "I", false)
  | 4 => ("GraveRails$Text", "token", "I", false)
  | 5 => ("GraveRails$Text", "value", "I", false)
  | _ => ("GraveRails$Text", "fault", "I", false)
def mm_T9 : u_T := fun k => match k with
  | 0 => ("GraveRails$World", "yard", "LGraveRails$Yard;", true)
  | 1 => ("GraveRails$World", "state", "LGraveRails$State;", true)
  | 2 => ("GraveRails$World", "sights", "LGraveRails$Sights;", true)
  | 3 => ("GraveRails$World", "ruleInForce", "I", false)
  | 4 => ("GraveRails$World", "x", "I", false)
  | _ => ("GraveRails$World", "made", "Z", false)
def mm_T10 : u_T := fun k => match k with
  | 0 => ("GraveRails$Yard", "lanes", "I", false)
  | 1 => ("GraveRails$Yard", "cells", "I", false)
  | 2 => ("GraveRails$Yard", "graves", "I", false)
  | 3 => ("GraveRails$Yard", "lane", "[I", true)
  | 4 => ("GraveRails$Yard", "cell", "[I", true)
  | 5 => ("GraveRails$Yard", "kind", "[I", true)
  | 6 => ("GraveRails$Yard", "pair", "[I", true)
  | 7 => ("GraveRails$Yard", "heavy", "[I", true)
  | 8 => ("GraveRails$Yard", "roots", "I", false)
  | 9 => ("GraveRails$Yard", "rootYears", "[I", true)
  | 10 => ("GraveRails$Yard", "floods", "I", false)
  | _ => ("GraveRails$Yard", "floodYear", "[I", true)
def mm_T11 : u_T := fun k => match k with
  | 0 => ("GraveRails$YardReader", "told", "LGraveRails$Yard;", true)
  | _ => ("GraveRails$YardReader", "text", "LGraveRails$Text;", true)
def mm_T12 : u_T := fun k => match k with
  | 0 => ("GraveRailsModel", "tape", "[B", true)
  | 1 => ("GraveRailsModel", "taped", "I", false)
  | 2 => ("GraveRailsModel", "rules", "I", false)
  | 3 => ("GraveRailsModel", "sign", "[I", true)
  | 4 => ("GraveRailsModel", "length", "[I", true)
  | 5 => ("GraveRailsModel", "clause", "[I", true)
  | 6 => ("GraveRailsModel", "clauses", "[I", true)
  | 7 => ("GraveRailsModel", "read", "[I", true)
  | 8 => ("GraveRailsModel", "next", "I", false)
  | 9 => ("GraveRailsModel", "wrong", "I", false)
  | 10 => ("GraveRailsModel", "number", "I", false)
  | 11 => ("GraveRailsModel", "text", "I", false)
  | 12 => ("GraveRailsModel", "made", "I", false)
  | 13 => ("GraveRailsModel", "deep", "I", false)
  | 14 => ("GraveRailsModel", "lines", "I", false)
  | 15 => ("GraveRailsModel", "open", "[I", true)
  | 16 => ("GraveRailsModel", "opened", "I", false)
  | 17 => ("GraveRailsModel", "stack", "[J", true)
  | 18 => ("GraveRailsModel", "top", "I", false)
  | 19 => ("GraveRailsModel", "word", "[J", true)
  | 20 => ("GraveRailsModel", "said", "[I", true)
  | 21 => ("GraveRailsModel", "force", "I", false)
  | 22 => ("GraveRailsModel", "x", "I", false)
  | 23 => ("GraveRailsModel", "fallRow", "[I", true)
  | 24 => ("GraveRailsModel", "fellMany", "I", false)
  | 25 => ("GraveRailsModel", "floodedMany", "I", false)
  | 26 => ("GraveRailsModel", "isFloodDrawn", "Z", false)
  | 27 => ("GraveRailsModel", "order", "[I", true)
  | 28 => ("GraveRailsModel", "orderMany", "I", false)
  | 29 => ("GraveRailsModel", "wasSaid", "[I", true)
  | 30 => ("GraveRailsModel", "undone", "I", false)
  | 31 => ("GraveRailsModel", "kept", "[I", true)
  | 32 => ("GraveRailsModel", "fit", "[I", true)
  | 33 => ("GraveRailsModel", "fitMany", "I", false)
  | 34 => ("GraveRailsModel", "manyBy", "[I", true)
  | 35 => ("GraveRailsModel", "drawX", "J", false)
  | 36 => ("GraveRailsModel", "images", "[I", true)
  | 37 => ("GraveRailsModel", "imageForce", "[I", true)
  | 38 => ("GraveRailsModel", "imageX", "[I", true)
  | _ => ("GraveRailsModel", "isMade", "[Z", true)
def mm_y0 : Nat → FieldType := fun k => match k with
  | 0 => .object "GraveRails$Text"
  | 1 => .object "GraveRails$YardReader"
  | 2 => .object "GraveRails$RuleReader"
  | 3 => .array (.object "GraveRails$Rule")
  | 4 => .int
  | 5 => .object "GraveRails$World"
  | 6 => .array (.object "GraveRails$World")
  | 7 => .object "GraveRails$Acts"
  | 8 => .object "GraveRails$Course"
  | 9 => .object "GraveRails$Sets"
  | 10 => .object "GraveRails$Yard"
  | _ => .object "GraveRails$State"
def mm_y1 : Nat → FieldType := fun k => match k with
  | 0 => .int
  | 1 => .int
  | _ => .array (.object "GraveRails$State")
def mm_y2 : Nat → FieldType := fun k => match k with
  | 0 => .object "GraveRails$State"
  | 1 => .array (.int)
  | 2 => .int
  | 3 => .int
  | 4 => .boolean
  | 5 => .object "GraveRails$Yard"
  | 6 => .object "GraveRails$Rule"
  | 7 => .boolean
  | 8 => .array (.int)
  | 9 => .array (.int)
  | 10 => .int
  | _ => .array (.long)
def mm_y3 : Nat → FieldType := fun k => match k with
  | 0 => .array (.int)
  | 1 => .int
  | 2 => .array (.int)
  | 3 => .array (.int)
  | 4 => .array (.int)
  | 5 => .int
  | _ => .array (.long)
def mm_y4 : Nat → FieldType := fun k => match k with
  | 0 => .object "GraveRails$Text"
  | 1 => .object "GraveRails$Rule"
  | _ => .int
def mm_y5 : Nat → FieldType := fun k => match k with
  | 0 => .boolean
  | 1 => .int
  | 2 => .int
  | 3 => .int
  | 4 => .int
  | 5 => .array (.int)
  | 6 => .int
  | 7 => .array (.int)
  | 8 => .object "GraveRails$Yard"
  | 9 => .object "GraveRails$Rule"
  | _ => .object "GraveRails$State"
def mm_y6 : Nat → FieldType := fun k => match k with
  | 0 => .int
  | 1 => .array (.int)
  | 2 => .array (.int)
  | _ => .array (.int)
def mm_y7 : Nat → FieldType := fun k => match k with
  | 0 => .int
  | 1 => .int
  | 2 => .int
  | 3 => .array (.int)
  | 4 => .array (.int)
  | 5 => .array (.int)
  | 6 => .array (.int)
  | 7 => .array (.int)
  | 8 => .array (.int)
  | 9 => .array (.int)
  | 10 => .array (.int)
  | _ => .array (.int)
def mm_y8 : Nat → FieldType := fun k => match k with
  | 0 => .array (.byte)
  | 1 => .int
  | 2 => .int
  | 3 => .int
  | 4 => .int
  | 5 => .int
  | _ => .int
def mm_y9 : Nat → FieldType := fun k => match k with
  | 0 => .object "GraveRails$Yard"
  | 1 => .object "GraveRails$State"
  | 2 => .object "GraveRails$Sights"
  | 3 => .int
  | 4 => .int
  | _ => .boolean
def mm_y10 : Nat → FieldType := fun k => match k with
  | 0 => .int
  | 1 => .int
  | 2 => .int
  | 3 => .array (.int)
  | 4 => .array (.int)
  | 5 => .array (.int)
  | 6 => .array (.int)
  | 7 => .array (.int)
  | 8 => .int
  | 9 => .array (.int)
  | 10 => .int
  | _ => .array (.int)
def mm_y11 : Nat → FieldType := fun k => match k with
  | 0 => .object "GraveRails$Yard"
  | _ => .object "GraveRails$Text"
def mm_y12 : Nat → FieldType := fun k => match k with
  | 0 => .array (.byte)
  | 1 => .int
  | 2 => .int
  | 3 => .array (.int)
  | 4 => .array (.int)
  | 5 => .array (.int)
  | 6 => .array (.int)
  | 7 => .array (.int)
  | 8 => .int
  | 9 => .int
  | 10 => .int
  | 11 => .int
  | 12 => .int
  | 13 => .int
  | 14 => .int
  | 15 => .array (.int)
  | 16 => .int
  | 17 => .array (.long)
  | 18 => .int
  | 19 => .array (.long)
  | 20 => .array (.int)
  | 21 => .int
  | 22 => .int
  | 23 => .array (.int)
  | 24 => .int
  | 25 => .int
  | 26 => .boolean
  | 27 => .array (.int)
  | 28 => .int
  | 29 => .array (.int)
  | 30 => .int
  | 31 => .array (.int)
  | 32 => .array (.int)
  | 33 => .int
  | 34 => .array (.int)
  | 35 => .long
  | 36 => .array (.int)
  | 37 => .array (.int)
  | 38 => .array (.int)
  | _ => .array (.boolean)
def mm_cls : List vw_C := [("GraveRails", mm_T0, 12), ("GraveRails$Acts", mm_T1, 3), ("GraveRails$Course", mm_T2, 12), ("GraveRails$Rule", mm_T3, 7), ("GraveRails$RuleReader", mm_T4, 3), ("GraveRails$Sets", mm_T5, 11), ("GraveRails$Sights", mm_T6, 4), ("GraveRails$State", mm_T7, 12), ("GraveRails$Text", mm_T8, 7), ("GraveRails$World", mm_T9, 6), ("GraveRails$Yard", mm_T10, 12), ("GraveRails$YardReader", mm_T11, 2), ("GraveRailsModel", mm_T12, 40)]
def mm_ty (c : Nat) : Nat → FieldType := match c with
  | 0 => mm_y0
  | 1 => mm_y1
  | 2 => mm_y2
  | 3 => mm_y3
  | 4 => mm_y4
  | 5 => mm_y5
  | 6 => mm_y6
  | 7 => mm_y7
  | 8 => mm_y8
  | 9 => mm_y9
  | 10 => mm_y10
  | 11 => mm_y11
  | _ => mm_y12
def mm_R (c : Nat) : String := match c with
  | 0 => "GraveRails"
  | 1 => "GraveRails$Acts"
  | 2 => "GraveRails$Course"
  | 3 => "GraveRails$Rule"
  | 4 => "GraveRails$RuleReader"
  | 5 => "GraveRails$Sets"
  | 6 => "GraveRails$Sights"
  | 7 => "GraveRails$State"
  | 8 => "GraveRails$Text"
  | 9 => "GraveRails$World"
  | 10 => "GraveRails$Yard"
  | 11 => "GraveRails$YardReader"
  | 12 => "GraveRailsModel"
  | 13 => "GraveRailsLaw"
  | 14 => "java/util/Arrays"
  | _ => "java/lang/String"
theorem mm_ws0 : ∀ w ∈ u_ws "GraveRails" mm_T0 12, w ∈ mm_gw := mm_wsl [0, 1, 2, 3, 4, 5, 6, 7, 8, 9, 10, 11] rfl (List.forall_mem_cons.mpr ⟨mm_t2 (i := 213) rfl rfl, List.forall_mem_cons.mpr ⟨mm_t2 (i := 215) rfl rfl, List.forall_mem_cons.mpr ⟨mm_t2 (i := 217) rfl rfl, List.forall_mem_cons.mpr ⟨mm_t2 (i := 219) rfl rfl, List.forall_mem_cons.mpr ⟨mm_t2 (i := 221) rfl rfl, List.forall_mem_cons.mpr ⟨mm_t2 (i := 223) rfl rfl, List.forall_mem_cons.mpr ⟨mm_t2 (i := 225) rfl rfl, List.forall_mem_cons.mpr ⟨mm_t2 (i := 227) rfl rfl, List.forall_mem_cons.mpr ⟨mm_t2 (i := 229) rfl rfl, List.forall_mem_cons.mpr ⟨mm_t2 (i := 231) rfl rfl, List.forall_mem_cons.mpr ⟨mm_t2 (i := 233) rfl rfl, List.forall_mem_cons.mpr ⟨mm_t2 (i := 235) rfl rfl, fun _ h => absurd h List.not_mem_nil⟩⟩⟩⟩⟩⟩⟩⟩⟩⟩⟩⟩)
theorem mm_pf0 : ∀ k, k < 12 → parseFieldDescriptor (mm_T0 k).2.2.1 = some (mm_y0 k) := by decide +kernel
theorem mm_nm0 : ∀ a, a < 12 → ∀ b, b < 12 → a ≠ b → (mm_T0 a).2.1 ≠ (mm_T0 b).2.1 := by decide +kernel
theorem mm_ic0 : Cond.instantiable "GraveRails" 12 ∈ mm_gw := mm_t1 (i := 22) rfl rfl
theorem mm_nc0 : Cond.initialized "GraveRails" ∈ mm_gw := mm_t1 (i := 1) rfl rfl
theorem mm_ws1 : ∀ w ∈ u_ws "GraveRails$Acts" mm_T1 3, w ∈ mm_gw := mm_wsl [0, 1, 2] rfl (List.forall_mem_cons.mpr ⟨mm_t2 (i := 88) rfl rfl, List.forall_mem_cons.mpr ⟨mm_t2 (i := 90) rfl rfl, List.forall_mem_cons.mpr ⟨mm_t2 (i := 92) rfl rfl, fun _ h => absurd h List.not_mem_nil⟩⟩⟩)
theorem mm_pf1 : ∀ k, k < 3 → parseFieldDescriptor (mm_T1 k).2.2.1 = some (mm_y1 k) := by decide +kernel
theorem mm_nm1 : ∀ a, a < 3 → ∀ b, b < 3 → a ≠ b → (mm_T1 a).2.1 ≠ (mm_T1 b).2.1 := by decide +kernel
theorem mm_ic1 : Cond.instantiable "GraveRails$Acts" 3 ∈ mm_gw := mm_t2 (i := 76) rfl rfl
theorem mm_nc1 : Cond.initialized "GraveRails$Acts" ∈ mm_gw := mm_t1 (i := 11) rfl rfl
theorem mm_ws2 : ∀ w ∈ u_ws "GraveRails$Course" mm_T2 12, w ∈ mm_gw := mm_wsl [0, 1, 2, 3, 4, 5, 6, 7, 8, 9, 10, 11] rfl (List.forall_mem_cons.mpr ⟨mm_t2 (i := 123) rfl rfl, List.forall_mem_cons.mpr ⟨mm_t2 (i := 125) rfl rfl, List.forall_mem_cons.mpr ⟨mm_t2 (i := 127) rfl rfl, List.forall_mem_cons.mpr ⟨mm_t2 (i := 129) rfl rfl, List.forall_mem_cons.mpr ⟨mm_t2 (i := 131) rfl rfl, List.forall_mem_cons.mpr ⟨mm_t2 (i := 133) rfl rfl, List.forall_mem_cons.mpr ⟨mm_t2 (i := 135) rfl rfl, List.forall_mem_cons.mpr ⟨mm_t2 (i := 137) rfl rfl, List.forall_mem_cons.mpr ⟨mm_t2 (i := 139) rfl rfl, List.forall_mem_cons.mpr ⟨mm_t2 (i := 141) rfl rfl, List.forall_mem_cons.mpr ⟨mm_t2 (i := 143) rfl rfl, List.forall_mem_cons.mpr ⟨mm_t2 (i := 145) rfl rfl, fun _ h => absurd h List.not_mem_nil⟩⟩⟩⟩⟩⟩⟩⟩⟩⟩⟩⟩)
theorem mm_pf2 : ∀ k, k < 12 → parseFieldDescriptor (mm_T2 k).2.2.1 = some (mm_y2 k) := by decide +kernel
theorem mm_nm2 : ∀ a, a < 12 → ∀ b, b < 12 → a ≠ b → (mm_T2 a).2.1 ≠ (mm_T2 b).2.1 := by decide +kernel
theorem mm_ic2 : Cond.instantiable "GraveRails$Course" 12 ∈ mm_gw := mm_t2 (i := 96) rfl rfl
theorem mm_nc2 : Cond.initialized "GraveRails$Course" ∈ mm_gw := mm_t1 (i := 12) rfl rfl
theorem mm_ws3 : ∀ w ∈ u_ws "GraveRails$Rule" mm_T3 7, w ∈ mm_gw := mm_wsl [0, 1, 2, 3, 4, 5, 6] rfl (List.forall_mem_cons.mpr ⟨mm_t1 (i := 159) rfl rfl, List.forall_mem_cons.mpr ⟨mm_t1 (i := 161) rfl rfl, List.forall_mem_cons.mpr ⟨mm_t1 (i := 163) rfl rfl, List.forall_mem_cons.mpr ⟨mm_t1 (i := 165) rfl rfl, List.forall_mem_cons.mpr ⟨mm_t1 (i := 167) rfl rfl, List.forall_mem_cons.mpr ⟨mm_t1 (i := 169) rfl rfl, List.forall_mem_cons.mpr ⟨mm_t1 (i := 171) rfl rfl, fun _ h => absurd h List.not_mem_nil⟩⟩⟩⟩⟩⟩⟩)
theorem mm_pf3 : ∀ k, k < 7 → parseFieldDescriptor (mm_T3 k).2.2.1 = some (mm_y3 k) := by decide +kernel
theorem mm_nm3 : ∀ a, a < 7 → ∀ b, b < 7 → a ≠ b → (mm_T3 a).2.1 ≠ (mm_T3 b).2.1 := by decide +kernel
theorem mm_ic3 : Cond.instantiable "GraveRails$Rule" 7 ∈ mm_gw := mm_t1 (i := 147) rfl rfl
theorem mm_nc3 : Cond.initialized "GraveRails$Rule" ∈ mm_gw := mm_t1 (i := 7) rfl rfl
theorem mm_ws4 : ∀ w ∈ u_ws "GraveRails$RuleReader" mm_T4 3, w ∈ mm_gw := mm_wsl [0, 1, 2] rfl (List.forall_mem_cons.mpr ⟨mm_t1 (i := 178) rfl rfl, List.forall_mem_cons.mpr ⟨mm_t1 (i := 180) rfl rfl, List.forall_mem_cons.mpr ⟨mm_t1 (i := 182) rfl rfl, fun _ h => absurd h List.not_mem_nil⟩⟩⟩)
theorem mm_pf4 : ∀ k, k < 3 → parseFieldDescriptor (mm_T4 k).2.2.1 = some (mm_y4 k) := by decide +kernel
theorem mm_nm4 : ∀ a, a < 3 → ∀ b, b < 3 → a ≠ b → (mm_T4 a).2.1 ≠ (mm_T4 b).2.1 := by decide +kernel
theorem mm_ic4 : Cond.instantiable "GraveRails$RuleReader" 3 ∈ mm_gw := mm_t1 (i := 141) rfl rfl
theorem mm_nc4 : Cond.initialized "GraveRails$RuleReader" ∈ mm_gw := mm_t1 (i := 6) rfl rfl
theorem mm_ws5 : ∀ w ∈ u_ws "GraveRails$Sets" mm_T5 11, w ∈ mm_gw := mm_wsl [0, 1, 2, 3, 4, 5, 6, 7, 8, 9, 10] rfl (List.forall_mem_cons.mpr ⟨mm_t2 (i := 173) rfl rfl, List.forall_mem_cons.mpr ⟨mm_t2 (i := 175) rfl rfl, List.forall_mem_cons.mpr ⟨mm_t2 (i := 177) rfl rfl, List.forall_mem_cons.mpr ⟨mm_t2 (i := 179) rfl rfl, List.forall_mem_cons.mpr ⟨mm_t2 (i := 181) rfl rfl, List.forall_mem_cons.mpr ⟨mm_t2 (i := 183) rfl rfl, List.forall_mem_cons.mpr ⟨mm_t2 (i := 185) rfl rfl, List.forall_mem_cons.mpr ⟨mm_t2 (i := 187) rfl rfl, List.forall_mem_cons.mpr ⟨mm_t2 (i := 189) rfl rfl, List.forall_mem_cons.mpr ⟨mm_t2 (i := 191) rfl rfl, List.forall_mem_cons.mpr ⟨mm_t2 (i := 193) rfl rfl, fun _ h => absurd h List.not_mem_nil⟩⟩⟩⟩⟩⟩⟩⟩⟩⟩⟩)
theorem mm_pf5 : ∀ k, k < 11 → parseFieldDescriptor (mm_T5 k).2.2.1 = some (mm_y5 k) := by decide +kernel
theorem mm_nm5 : ∀ a, a < 11 → ∀ b, b < 11 → a ≠ b → (mm_T5 a).2.1 ≠ (mm_T5 b).2.1 := by decide +kernel
theorem mm_ic5 : Cond.instantiable "GraveRails$Sets" 11 ∈ mm_gw := mm_t2 (i := 149) rfl rfl
theorem mm_nc5 : Cond.initialized "GraveRails$Sets" ∈ mm_gw := mm_t1 (i := 13) rfl rfl
theorem mm_ws6 : ∀ w ∈ u_ws "GraveRails$Sights" mm_T6 4, w ∈ mm_gw := mm_wsl [0, 1, 2, 3] rfl (List.forall_mem_cons.mpr ⟨mm_t2 (i := 39) rfl rfl, List.forall_mem_cons.mpr ⟨mm_t2 (i := 41) rfl rfl, List.forall_mem_cons.mpr ⟨mm_t2 (i := 43) rfl rfl, List.forall_mem_cons.mpr ⟨mm_t2 (i := 45) rfl rfl, fun _ h => absurd h List.not_mem_nil⟩⟩⟩⟩)
theorem mm_pf6 : ∀ k, k < 4 → parseFieldDescriptor (mm_T6 k).2.2.1 = some (mm_y6 k) := by decide +kernel
theorem mm_nm6 : ∀ a, a < 4 → ∀ b, b < 4 → a ≠ b → (mm_T6 a).2.1 ≠ (mm_T6 b).2.1 := by decide +kernel
theorem mm_ic6 : Cond.instantiable "GraveRails$Sights" 4 ∈ mm_gw := mm_t2 (i := 29) rfl rfl
theorem mm_nc6 : Cond.initialized "GraveRails$Sights" ∈ mm_gw := mm_t1 (i := 10) rfl rfl
theorem mm_ws7 : ∀ w ∈ u_ws "GraveRails$State" mm_T7 12, w ∈ mm_gw := mm_wsl [0, 1, 2, 3, 4, 5, 6, 7, 8, 9, 10, 11] rfl (List.forall_mem_cons.mpr ⟨mm_t2 (i := 3) rfl rfl, List.forall_mem_cons.mpr ⟨mm_t2 (i := 5) rfl rfl, List.forall_mem_cons.mpr ⟨mm_t2 (i := 7) rfl rfl, List.forall_mem_cons.mpr ⟨mm_t2 (i := 9) rfl rfl, List.forall_mem_cons.mpr ⟨mm_t2 (i := 11) rfl rfl, List.forall_mem_cons.mpr ⟨mm_t2 (i := 13) rfl rfl, List.forall_mem_cons.mpr ⟨mm_t2 (i := 15) rfl rfl, List.forall_mem_cons.mpr ⟨mm_t2 (i := 17) rfl rfl, List.forall_mem_cons.mpr ⟨mm_t2 (i := 19) rfl rfl, List.forall_mem_cons.mpr ⟨mm_t2 (i := 21) rfl rfl, List.forall_mem_cons.mpr ⟨mm_t2 (i := 23) rfl rfl, List.forall_mem_cons.mpr ⟨mm_t2 (i := 25) rfl rfl, fun _ h => absurd h List.not_mem_nil⟩⟩⟩⟩⟩⟩⟩⟩⟩⟩⟩⟩)
theorem mm_pf7 : ∀ k, k < 12 → parseFieldDescriptor (mm_T7 k).2.2.1 = some (mm_y7 k) := by decide +kernel
theorem mm_nm7 : ∀ a, a < 12 → ∀ b, b < 12 → a ≠ b → (mm_T7 a).2.1 ≠ (mm_T7 b).2.1 := by decide +kernel
theorem mm_ic7 : Cond.instantiable "GraveRails$State" 12 ∈ mm_gw := mm_t1 (i := 196) rfl rfl
theorem mm_nc7 : Cond.initialized "GraveRails$State" ∈ mm_gw := mm_t1 (i := 9) rfl rfl
theorem mm_ws8 : ∀ w ∈ u_ws "GraveRails$Text" mm_T8 7, w ∈ mm_gw := mm_wsl [0, 1, 2, 3, 4, 5, 6] rfl (List.forall_mem_cons.mpr ⟨mm_t1 (i := 47) rfl rfl, List.forall_mem_cons.mpr ⟨mm_t1 (i := 49) rfl rfl, List.forall_mem_cons.mpr ⟨mm_t1 (i := 51) rfl rfl, List.forall_mem_cons.mpr ⟨mm_t1 (i := 53) rfl rfl, List.forall_mem_cons.mpr ⟨mm_t1 (i := 55) rfl rfl, List.forall_mem_cons.mpr ⟨mm_t1 (i := 57) rfl rfl, List.forall_mem_cons.mpr ⟨mm_t1 (i := 59) rfl rfl, fun _ h => absurd h List.not_mem_nil⟩⟩⟩⟩⟩⟩⟩)
theorem mm_pf8 : ∀ k, k < 7 → parseFieldDescriptor (mm_T8 k).2.2.1 = some (mm_y8 k) := by decide +kernel
theorem mm_nm8 : ∀ a, a < 7 → ∀ b, b < 7 → a ≠ b → (mm_T8 a).2.1 ≠ (mm_T8 b).2.1 := by decide +kernel
theorem mm_ic8 : Cond.instantiable "GraveRails$Text" 7 ∈ mm_gw := mm_t1 (i := 30) rfl rfl
theorem mm_nc8 : Cond.initialized "GraveRails$Text" ∈ mm_gw := mm_t1 (i := 2) rfl rfl
theorem mm_ws9 : ∀ w ∈ u_ws "GraveRails$World" mm_T9 6, w ∈ mm_gw := mm_wsl [0, 1, 2, 3, 4, 5] rfl (List.forall_mem_cons.mpr ⟨mm_t2 (i := 61) rfl rfl, List.forall_mem_cons.mpr ⟨mm_t2 (i := 63) rfl rfl, List.forall_mem_cons.mpr ⟨mm_t2 (i := 65) rfl rfl, List.forall_mem_cons.mpr ⟨mm_t2 (i := 67) rfl rfl, List.forall_mem_cons.mpr ⟨mm_t2 (i := 69) rfl rfl, List.forall_mem_cons.mpr ⟨mm_t2 (i := 71) rfl rfl, fun _ h => absurd h List.not_mem_nil⟩⟩⟩⟩⟩⟩)
theorem mm_pf9 : ∀ k, k < 6 → parseFieldDescriptor (mm_T9 k).2.2.1 = some (mm_y9 k) := by decide +kernel
theorem mm_nm9 : ∀ a, a < 6 → ∀ b, b < 6 → a ≠ b → (mm_T9 a).2.1 ≠ (mm_T9 b).2.1 := by decide +kernel
theorem mm_ic9 : Cond.instantiable "GraveRails$World" 6 ∈ mm_gw := mm_t1 (i := 188) rfl rfl
theorem mm_nc9 : Cond.initialized "GraveRails$World" ∈ mm_gw := mm_t1 (i := 8) rfl rfl
theorem mm_ws10 : ∀ w ∈ u_ws "GraveRails$Yard" mm_T10 12, w ∈ mm_gw := mm_wsl [0, 1, 2, 3, 4, 5, 6, 7, 8, 9, 10, 11] rfl (List.forall_mem_cons.mpr ⟨mm_t1 (i := 106) rfl rfl, List.forall_mem_cons.mpr ⟨mm_t1 (i := 108) rfl rfl, List.forall_mem_cons.mpr ⟨mm_t1 (i := 110) rfl rfl, List.forall_mem_cons.mpr ⟨mm_t1 (i := 112) rfl rfl, List.forall_mem_cons.mpr ⟨mm_t1 (i := 114) rfl rfl, List.forall_mem_cons.mpr ⟨mm_t1 (i := 116) rfl rfl, List.forall_mem_cons.mpr ⟨mm_t1 (i := 118) rfl rfl, List.forall_mem_cons.mpr ⟨mm_t1 (i := 120) rfl rfl, List.forall_mem_cons.mpr ⟨mm_t1 (i := 122) rfl rfl, List.forall_mem_cons.mpr ⟨mm_t1 (i := 124) rfl rfl, List.forall_mem_cons.mpr ⟨mm_t1 (i := 126) rfl rfl, List.forall_mem_cons.mpr ⟨mm_t1 (i := 128) rfl rfl, fun _ h => absurd h List.not_mem_nil⟩⟩⟩⟩⟩⟩⟩⟩⟩⟩⟩⟩)
theorem mm_pf10 : ∀ k, k < 12 → parseFieldDescriptor (mm_T10 k).2.2.1 = some (mm_y10 k) := by decide +kernel
theorem mm_nm10 : ∀ a, a < 12 → ∀ b, b < 12 → a ≠ b → (mm_T10 a).2.1 ≠ (mm_T10 b).2.1 := by decide +kernel
theorem mm_ic10 : Cond.instantiable "GraveRails$Yard" 12 ∈ mm_gw := mm_t1 (i := 70) rfl rfl
theorem mm_nc10 : Cond.initialized "GraveRails$Yard" ∈ mm_gw := mm_t1 (i := 4) rfl rfl
theorem mm_ws11 : ∀ w ∈ u_ws "GraveRails$YardReader" mm_T11 2, w ∈ mm_gw := mm_wsl [0, 1] rfl (List.forall_mem_cons.mpr ⟨mm_t1 (i := 135) rfl rfl, List.forall_mem_cons.mpr ⟨mm_t1 (i := 137) rfl rfl, fun _ h => absurd h List.not_mem_nil⟩⟩)
theorem mm_pf11 : ∀ k, k < 2 → parseFieldDescriptor (mm_T11 k).2.2.1 = some (mm_y11 k) := by decide +kernel
theorem mm_nm11 : ∀ a, a < 2 → ∀ b, b < 2 → a ≠ b → (mm_T11 a).2.1 ≠ (mm_T11 b).2.1 := by decide +kernel
theorem mm_ic11 : Cond.instantiable "GraveRails$YardReader" 2 ∈ mm_gw := mm_t1 (i := 64) rfl rfl
theorem mm_nc11 : Cond.initialized "GraveRails$YardReader" ∈ mm_gw := mm_t1 (i := 3) rfl rfl
theorem mm_ws12 : ∀ w ∈ u_ws "GraveRailsModel" mm_T12 40, w ∈ mm_gw := mm_wsl [0, 1, 2, 3, 4, 5, 6, 7, 8, 9, 10, 11, 12, 13, 14, 15, 16, 17, 18, 19, 20, 21, 22, 23, 24, 25, 26, 27, 28, 29, 30, 31, 32, 33, 34, 35, 36, 37, 38, 39] rfl (List.forall_mem_cons.mpr ⟨mm_t5 (i := 177) rfl rfl, List.forall_mem_cons.mpr ⟨mm_t5 (i := 179) rfl rfl, List.forall_mem_cons.mpr ⟨mm_t5 (i := 181) rfl rfl, List.forall_mem_cons.mpr ⟨mm_t5 (i := 183) rfl rfl, List.forall_mem_cons.mpr ⟨mm_t5 (i := 185) rfl rfl, List.forall_mem_cons.mpr ⟨mm_t5 (i := 187) rfl rfl, List.forall_mem_cons.mpr ⟨mm_t5 (i := 189) rfl rfl, List.forall_mem_cons.mpr ⟨mm_t5 (i := 191) rfl rfl, List.forall_mem_cons.mpr ⟨mm_t5 (i := 193) rfl rfl, List.forall_mem_cons.mpr ⟨mm_t5 (i := 195) rfl rfl, List.forall_mem_cons.mpr ⟨mm_t5 (i := 197) rfl rfl, List.forall_mem_cons.mpr ⟨mm_t5 (i := 199) rfl rfl, List.forall_mem_cons.mpr ⟨mm_t5 (i := 201) rfl rfl, List.forall_mem_cons.mpr ⟨mm_t5 (i := 203) rfl rfl, List.forall_mem_cons.mpr ⟨mm_t5 (i := 205) rfl rfl, List.forall_mem_cons.mpr ⟨mm_t5 (i := 207) rfl rfl, List.forall_mem_cons.mpr ⟨mm_t5 (i := 209) rfl rfl, List.forall_mem_cons.mpr ⟨mm_t5 (i := 211) rfl rfl, List.forall_mem_cons.mpr ⟨mm_t5 (i := 213) rfl rfl, List.forall_mem_cons.mpr ⟨mm_t5 (i := 215) rfl rfl, List.forall_mem_cons.mpr ⟨mm_t5 (i := 217) rfl rfl, List.forall_mem_cons.mpr ⟨mm_t5 (i := 219) rfl rfl, List.forall_mem_cons.mpr ⟨mm_t5 (i := 221) rfl rfl, List.forall_mem_cons.mpr ⟨mm_t5 (i := 223) rfl rfl, List.forall_mem_cons.mpr ⟨mm_t5 (i := 225) rfl rfl, List.forall_mem_cons.mpr ⟨mm_t5 (i := 227) rfl rfl, List.forall_mem_cons.mpr ⟨mm_t5 (i := 229) rfl rfl, List.forall_mem_cons.mpr ⟨mm_t5 (i := 231) rfl rfl, List.forall_mem_cons.mpr ⟨mm_t5 (i := 233) rfl rfl, List.forall_mem_cons.mpr ⟨mm_t5 (i := 235) rfl rfl, List.forall_mem_cons.mpr ⟨mm_t5 (i := 237) rfl rfl, List.forall_mem_cons.mpr ⟨mm_t5 (i := 239) rfl rfl, List.forall_mem_cons.mpr ⟨mm_t6 (i := 1) rfl rfl, List.forall_mem_cons.mpr ⟨mm_t6 (i := 3) rfl rfl, List.forall_mem_cons.mpr ⟨mm_t6 (i := 5) rfl rfl, List.forall_mem_cons.mpr ⟨mm_t6 (i := 7) rfl rfl, List.forall_mem_cons.mpr ⟨mm_t6 (i := 9) rfl rfl, List.forall_mem_cons.mpr ⟨mm_t6 (i := 11) rfl rfl, List.forall_mem_cons.mpr ⟨mm_t6 (i := 13) rfl rfl, List.forall_mem_cons.mpr ⟨mm_t6 (i := 15) rfl rfl, fun _ h => absurd h List.not_mem_nil⟩⟩⟩⟩⟩⟩⟩⟩⟩⟩⟩⟩⟩⟩⟩⟩⟩⟩⟩⟩⟩⟩⟩⟩⟩⟩⟩⟩⟩⟩⟩⟩⟩⟩⟩⟩⟩⟩⟩⟩)
theorem mm_pf12 : ∀ k, k < 40 → parseFieldDescriptor (mm_T12 k).2.2.1 = some (mm_y12 k) := by decide +kernel
theorem mm_nm12 : ∀ a, a < 40 → ∀ b, b < 40 → a ≠ b → (mm_T12 a).2.1 ≠ (mm_T12 b).2.1 := by decide +kernel
theorem mm_ic12 : Cond.instantiable "GraveRailsModel" 40 ∈ mm_gw := mm_t5 (i := 132) rfl rfl
theorem mm_nc12 : Cond.initialized "GraveRailsModel" ∈ mm_gw := mm_t1 (i := 14) rfl rfl
/-- what every class of ours has: its fields' words, their types, their names apart, that it can be made -/
theorem mm_cls_ok (c : Nat) (q : vw_C) (h : mm_cls[c]? = some q) : (∀ w ∈ u_ws q.1 q.2.1 q.2.2, w ∈ mm_gw) ∧ (∀ k, k < q.2.2 → parseFieldDescriptor (q.2.1 k).2.2.1 = some (mm_ty c k)) ∧ (∀ a, a < q.2.2 → ∀ b, b < q.2.2 → a ≠ b → (q.2.1 a).2.1 ≠ (q.2.1 b).2.1) ∧ Cond.instantiable q.1 q.2.2 ∈ mm_gw ∧ Cond.initialized q.1 ∈ mm_gw ∧ q.1 = mm_R c := by
  match c, h with
  | 0, h => cases h; exact ⟨mm_ws0, mm_pf0, mm_nm0, mm_ic0, mm_nc0, rfl⟩
  | 1, h => cases h; exact ⟨mm_ws1, mm_pf1, mm_nm1, mm_ic1, mm_nc1, rfl⟩
  | 2, h => cases h; exact ⟨mm_ws2, mm_pf2, mm_nm2, mm_ic2, mm_nc2, rfl⟩
  | 3, h => cases h; exact ⟨mm_ws3, mm_pf3, mm_nm3, mm_ic3, mm_nc3, rfl⟩
  | 4, h => cases h; exact ⟨mm_ws4, mm_pf4, mm_nm4, mm_ic4, mm_nc4, rfl⟩
  | 5, h => cases h; exact ⟨mm_ws5, mm_pf5, mm_nm5, mm_ic5, mm_nc5, rfl⟩
  | 6, h => cases h; exact ⟨mm_ws6, mm_pf6, mm_nm6, mm_ic6, mm_nc6, rfl⟩
  | 7, h => cases h; exact ⟨mm_ws7, mm_pf7, mm_nm7, mm_ic7, mm_nc7, rfl⟩
  | 8, h => cases h; exact ⟨mm_ws8, mm_pf8, mm_nm8, mm_ic8, mm_nc8, rfl⟩
  | 9, h => cases h; exact ⟨mm_ws9, mm_pf9, mm_nm9, mm_ic9, mm_nc9, rfl⟩
  | 10, h => cases h; exact ⟨mm_ws10, mm_pf10, mm_nm10, mm_ic10, mm_nc10, rfl⟩
  | 11, h => cases h; exact ⟨mm_ws11, mm_pf11, mm_nm11, mm_ic11, mm_nc11, rfl⟩
  | 12, h => cases h; exact ⟨mm_ws12, mm_pf12, mm_nm12, mm_ic12, mm_nc12, rfl⟩
  | c + 13, h => simp [mm_cls] at h
theorem mm_own_f {c : Nat} {q : vw_C} (h : mm_cls[c]? = some q) {k : Nat} (hk : k < q.2.2) : (q.2.1 k).1 = mm_R c := by
  match c, h with
  | 0, h => cases h; show (mm_T0 k).1 = _; unfold mm_T0; split <;> rfl
  | 1, h => cases h; show (mm_T1 k).1 = _; unfold mm_T1; split <;> rfl
  | 2, h => cases h; show (mm_T2 k).1 = _; unfold mm_T2; split <;> rfl
  | 3, h => cases h; show (mm_T3 k).1 = _; unfold mm_T3; split <;> rfl
  | 4, h => cases h; show (mm_T4 k).1 = _; unfold mm_T4; split <;> rfl
  | 5, h => cases h; show (mm_T5 k).1 = _; unfold mm_T5; split <;> rfl
  | 6, h => cases h; show (mm_T6 k).1 = _; unfold mm_T6; split <;> rfl
  | 7, h => cases h; show (mm_T7 k).1 = _; unfold mm_T7; split <;> rfl
  | 8, h => cases h; show (mm_T8 k).1 = _; unfold mm_T8; split <;> rfl
  | 9, h => cases h; show (mm_T9 k).1 = _; unfold mm_T9; split <;> rfl
  | 10, h => cases h; show (mm_T10 k).1 = _; unfold mm_T10; split <;> rfl
  | 11, h => cases h; show (mm_T11 k).1 = _; unfold mm_T11; split <;> rfl
  | 12, h => cases h; show (mm_T12 k).1 = _; unfold mm_T12; split <;> rfl
  | c + 13, h => simp [mm_cls] at h
/-- a method's row: name, bytes, (class, locals, parameters, 1 if static and 2 if <init>, answer: 0 void, 1 int, 2 boolean, 3 long, 4 a Rule or null, 5 char, 6 a World or null, 7 a State or null) -/
abbrev mm_Row : Type := MethodName × ByteArray × Nat × Nat × Nat × Nat × Nat
def mm_rn (k : Nat) : String := match k with
  | 4 => "GraveRails$Rule"
  | 6 => "GraveRails$World"
  | _ => "GraveRails$State"
def mm_rto (k : Nat) : Option FieldType := match k with
  | 0 => none
  | 1 => some .int
  | 2 => some .boolean
  | 3 => some .long
  | 5 => some .char
  | k => some (.object (mm_rn k))
theorem mm_rto_o {k : Nat} (h : k = 4 ∨ k = 6 ∨ k = 7) : mm_rto k = some (.object (mm_rn k)) := by
  rcases h with rfl | rfl | rfl <;> rfl
def mm_rows0 : List mm_Row := [(⟨"GraveRails", "<init>", "()V"⟩, prog_1_method_1_code, 0, 2, 0, 2, 0),
  (⟨"GraveRails$Text", "<init>", "()V"⟩, prog_9_method_1_code, 8, 1, 0, 2, 0),
  (⟨"GraveRails$YardReader", "<init>", "(LGraveRails$Text;)V"⟩, prog_12_method_1_code, 11, 2, 1, 2, 0),
  (⟨"GraveRails$Yard", "<init>", "()V"⟩, prog_11_method_1_code, 10, 1, 0, 2, 0),
  (⟨"GraveRails$RuleReader", "<init>", "(LGraveRails$Text;)V"⟩, prog_5_method_1_code, 4, 2, 1, 2, 0),
  (⟨"GraveRails$Rule", "<init>", "()V"⟩, prog_4_method_1_code, 3, 1, 0, 2, 0),
  (⟨"GraveRails$World", "<init>", "()V"⟩, prog_10_method_1_code, 9, 1, 0, 2, 0),
  (⟨"GraveRails$State", "<init>", "()V"⟩, prog_8_method_1_code, 7, 1, 0, 2, 0),
  (⟨"GraveRails$Sights", "<init>", "()V"⟩, prog_7_method_1_code, 6, 1, 0, 2, 0),
  (⟨"GraveRails$Acts", "<init>", "()V"⟩, prog_2_method_1_code, 1, 2, 0, 2, 0),
  (⟨"GraveRails$Course", "<init>", "()V"⟩, prog_3_method_1_code, 2, 1, 0, 2, 0),
  (⟨"GraveRails$Sets", "<init>", "()V"⟩, prog_6_method_1_code, 5, 1, 0, 2, 0),
  (⟨"GraveRails", "feed", "(IIIII)I"⟩, prog_1_method_2_code, 0, 6, 5, 0, 1),
  (⟨"GraveRails$Text", "addNumber", "(I)V"⟩, prog_9_method_2_code, 8, 3, 1, 0, 0),
  (⟨"GraveRails", "end", "(I)I"⟩, prog_1_method_3_code, 0, 2, 1, 0, 1),
  (⟨"GraveRails", "yard", "()I"⟩, prog_1_method_4_code, 0, 2, 0, 0, 1)]
def mm_rows1 : List mm_Row := [(⟨"GraveRails$YardReader", "readYard", "()I"⟩, prog_12_method_2_code, 11, 3, 0, 0, 1),
  (⟨"GraveRails$Yard", "clear", "()V"⟩, prog_11_method_2_code, 10, 1, 0, 0, 0),
  (⟨"GraveRails$Text", "rewind", "()V"⟩, prog_9_method_3_code, 8, 1, 0, 0, 0),
  (⟨"GraveRails$Text", "advance", "()V"⟩, prog_9_method_5_code, 8, 2, 0, 0, 0),
  (⟨"GraveRails$Text", "passNumber", "()V"⟩, prog_9_method_6_code, 8, 2, 0, 0, 0),
  (⟨"GraveRails$Text", "passWord", "()V"⟩, prog_9_method_7_code, 8, 1, 0, 0, 0),
  (⟨"GraveRails$Text", "passSign", "(I)V"⟩, prog_9_method_8_code, 8, 3, 1, 0, 0),
  (⟨"GraveRails$YardReader", "readClause", "(I)V"⟩, prog_12_method_3_code, 11, 4, 1, 0, 0),
  (⟨"GraveRails$Text", "wordAmong", "(Ljava/lang/String;)I"⟩, prog_9_method_9_code, 8, 6, 1, 0, 1),
  (⟨"GraveRails$Text", "refuse", "(I)V"⟩, prog_9_method_4_code, 8, 2, 1, 0, 0),
  (⟨"GraveRails$YardReader", "isFull", "(I)Z"⟩, prog_12_method_4_code, 11, 2, 1, 0, 2),
  (⟨"GraveRails$YardReader", "readSize", "()V"⟩, prog_12_method_5_code, 11, 3, 0, 0, 0),
  (⟨"GraveRails$Text", "numberFrom", "(II)I"⟩, prog_9_method_12_code, 8, 3, 2, 0, 1),
  (⟨"GraveRails$YardReader", "readGrave", "()V"⟩, prog_12_method_6_code, 11, 4, 0, 0, 0),
  (⟨"GraveRails$Yard", "isTaken", "(II)Z"⟩, prog_11_method_7_code, 10, 4, 2, 0, 2),
  (⟨"GraveRails$Yard", "addGrave", "(III)V"⟩, prog_11_method_12_code, 10, 4, 3, 0, 0)]
def mm_rows2 : List mm_Row := [(⟨"GraveRails$YardReader", "readPair", "()V"⟩, prog_12_method_7_code, 11, 3, 0, 0, 0),
  (⟨"GraveRails$YardReader", "readUnpaired", "(I)I"⟩, prog_12_method_8_code, 11, 3, 1, 0, 1),
  (⟨"GraveRails$Yard", "pairOf", "(I)I"⟩, prog_11_method_10_code, 10, 2, 1, 0, 1),
  (⟨"GraveRails$Yard", "addPair", "(II)V"⟩, prog_11_method_13_code, 10, 3, 2, 0, 0),
  (⟨"GraveRails$YardReader", "readRoot", "()V"⟩, prog_12_method_9_code, 11, 4, 0, 0, 0),
  (⟨"GraveRails$Yard", "rootAt", "(II)I"⟩, prog_11_method_8_code, 10, 4, 2, 0, 1),
  (⟨"GraveRails$Yard", "addRoot", "(III)V"⟩, prog_11_method_14_code, 10, 4, 3, 0, 0),
  (⟨"GraveRails$Yard", "hasPlace", "(II)Z"⟩, prog_11_method_6_code, 10, 3, 2, 0, 2),
  (⟨"GraveRails$YardReader", "readHeavy", "()V"⟩, prog_12_method_10_code, 11, 2, 0, 0, 0),
  (⟨"GraveRails$Yard", "makeHeavy", "(I)V"⟩, prog_11_method_15_code, 10, 2, 1, 0, 0),
  (⟨"GraveRails$YardReader", "readFlood", "()V"⟩, prog_12_method_11_code, 11, 2, 0, 0, 0),
  (⟨"GraveRails$Yard", "isFlood", "(I)Z"⟩, prog_11_method_9_code, 10, 3, 1, 0, 2),
  (⟨"GraveRails$Yard", "addFlood", "(I)V"⟩, prog_11_method_16_code, 10, 2, 1, 0, 0),
  (⟨"GraveRails$Text", "takeMore", "()Z"⟩, prog_9_method_13_code, 8, 1, 0, 0, 2),
  (⟨"GraveRails$Text", "isSign", "(I)Z"⟩, prog_9_method_11_code, 8, 2, 1, 0, 2),
  (⟨"GraveRails$Yard", "copyFrom", "(LGraveRails$Yard;)V"⟩, prog_11_method_3_code, 10, 2, 1, 0, 0)]
def mm_rows3 : List mm_Row := [(⟨"GraveRails$State", "startOf", "(LGraveRails$Yard;)V"⟩, prog_8_method_3_code, 7, 3, 1, 0, 0),
  (⟨"GraveRails$State", "add", "(III)V"⟩, prog_8_method_4_code, 7, 5, 3, 0, 0),
  (⟨"GraveRails", "rule", "()I"⟩, prog_1_method_5_code, 0, 2, 0, 0, 1),
  (⟨"GraveRails$RuleReader", "readRule", "(LGraveRails$Rule;)I"⟩, prog_5_method_2_code, 4, 4, 1, 0, 1),
  (⟨"GraveRails$Rule", "clear", "()V"⟩, prog_4_method_2_code, 3, 1, 0, 0, 0),
  (⟨"GraveRails$Rule", "openClause", "()V"⟩, prog_4_method_4_code, 3, 1, 0, 0, 0),
  (⟨"GraveRails$RuleReader", "readSum", "()V"⟩, prog_5_method_5_code, 4, 5, 0, 0, 0),
  (⟨"GraveRails$RuleReader", "readValue", "()V"⟩, prog_5_method_6_code, 4, 2, 0, 0, 0),
  (⟨"GraveRails$RuleReader", "countOne", "()V"⟩, prog_5_method_7_code, 4, 1, 0, 0, 0),
  (⟨"GraveRails$Rule", "emit", "(I)V"⟩, prog_4_method_3_code, 3, 2, 1, 0, 0),
  (⟨"GraveRails$RuleReader", "signAmong", "(IIIII)I"⟩, prog_5_method_8_code, 4, 7, 5, 0, 1),
  (⟨"GraveRails$Rule", "openTest", "()V"⟩, prog_4_method_5_code, 3, 1, 0, 0, 0),
  (⟨"GraveRails$Text", "takeWord", "(Ljava/lang/String;)Z"⟩, prog_9_method_10_code, 8, 2, 1, 0, 2),
  (⟨"GraveRails$RuleReader", "readTest", "(I)V"⟩, prog_5_method_3_code, 4, 5, 1, 0, 0),
  (⟨"GraveRails$RuleReader", "readFact", "(I)V"⟩, prog_5_method_4_code, 4, 5, 1, 0, 0),
  (⟨"GraveRails$Rule", "closeClause", "()V"⟩, prog_4_method_6_code, 3, 1, 0, 0, 0)]
def mm_rows4 : List mm_Row := [(⟨"GraveRails", "force", "(I)I"⟩, prog_1_method_6_code, 0, 3, 1, 0, 1),
  (⟨"GraveRails", "grave", "(II)I"⟩, prog_1_method_7_code, 0, 4, 2, 0, 1),
  (⟨"GraveRails$State", "has", "(I)Z"⟩, prog_8_method_5_code, 7, 2, 1, 0, 2),
  (⟨"GraveRails", "stone", "(II)I"⟩, prog_1_method_8_code, 0, 4, 2, 0, 1),
  (⟨"GraveRails$Yard", "isHeavy", "(I)Z"⟩, prog_11_method_11_code, 10, 2, 1, 0, 2),
  (⟨"GraveRails$State", "graveAt", "(II)I"⟩, prog_8_method_7_code, 7, 4, 2, 0, 1),
  (⟨"GraveRails", "at", "(II)I"⟩, prog_1_method_9_code, 0, 3, 2, 0, 1),
  (⟨"GraveRails", "root", "(II)I"⟩, prog_1_method_10_code, 0, 3, 2, 0, 1),
  (⟨"GraveRails", "year", "()I"⟩, prog_1_method_11_code, 0, 1, 0, 0, 1),
  (⟨"GraveRails$Yard", "isTold", "()Z"⟩, prog_11_method_5_code, 10, 1, 0, 0, 2),
  (⟨"GraveRails$Acts", "keep", "(LGraveRails$State;)V"⟩, prog_2_method_2_code, 1, 3, 1, 0, 0),
  (⟨"GraveRails$Acts", "nextOne", "()LGraveRails$State;"⟩, prog_2_method_4_code, 1, 1, 0, 0, 7),
  (⟨"GraveRails$State", "copyFrom", "(LGraveRails$State;)V"⟩, prog_8_method_2_code, 7, 2, 1, 0, 0),
  (⟨"GraveRails", "startFromNow", "()V"⟩, prog_1_method_33_code, 0, 1, 0, 0, 0),
  (⟨"GraveRails", "ruleInForce", "()LGraveRails$Rule;"⟩, prog_1_method_34_code, 0, 2, 0, 0, 4),
  (⟨"GraveRails$Course", "start", "(LGraveRails$Yard;LGraveRails$State;LGraveRails$Rule;)V"⟩, prog_3_method_2_code, 2, 4, 3, 0, 0)]
def mm_rows5 : List mm_Row := [(⟨"GraveRails$Course", "goYear", "()V"⟩, prog_3_method_3_code, 2, 2, 0, 0, 0),
  (⟨"GraveRails$Course", "floodRows", "()V"⟩, prog_3_method_4_code, 2, 3, 0, 0, 0),
  (⟨"GraveRails$Course", "takeOrder", "()V"⟩, prog_3_method_6_code, 2, 4, 0, 0, 0),
  (⟨"GraveRails$State", "lies", "(I)Z"⟩, prog_8_method_6_code, 7, 2, 1, 0, 2),
  (⟨"GraveRails$Course", "drop", "(I)V"⟩, prog_3_method_5_code, 2, 2, 1, 0, 0),
  (⟨"GraveRails$Course", "takeTurn", "(I)V"⟩, prog_3_method_7_code, 2, 5, 1, 0, 0),
  (⟨"GraveRails$Course", "fartherBy", "(I)I"⟩, prog_3_method_8_code, 2, 3, 1, 0, 1),
  (⟨"GraveRails$Course", "fillWords", "(I)V"⟩, prog_3_method_9_code, 2, 4, 1, 0, 0),
  (⟨"GraveRails$State", "countBehind", "(II)I"⟩, prog_8_method_8_code, 7, 5, 2, 0, 1),
  (⟨"GraveRails$Rule", "stepsBy", "([J)I"⟩, prog_4_method_7_code, 3, 6, 1, 0, 1),
  (⟨"GraveRails$Rule", "worth", "(II[J)J"⟩, prog_4_method_8_code, 3, 7, 3, 0, 3),
  (⟨"GraveRails$Rule", "join", "(IJJ)J"⟩, prog_4_method_9_code, 3, 5, 3, 1, 3),
  (⟨"GraveRails$Course", "goStep", "(I)Z"⟩, prog_3_method_10_code, 2, 5, 1, 0, 2),
  (⟨"GraveRails$Course", "laneRound", "(III)I"⟩, prog_3_method_11_code, 2, 4, 3, 0, 1),
  (⟨"GraveRails$Course", "comeTo", "(III)V"⟩, prog_3_method_12_code, 2, 4, 3, 0, 0),
  (⟨"GraveRails$Course", "moveStones", "()V"⟩, prog_3_method_13_code, 2, 4, 0, 0, 0)]
def mm_rows6 : List mm_Row := [(⟨"GraveRails", "dig", "(III)I"⟩, prog_1_method_12_code, 0, 5, 3, 0, 1),
  (⟨"GraveRails", "isFree", "(II)Z"⟩, prog_1_method_35_code, 0, 3, 2, 0, 2),
  (⟨"GraveRails", "pay", "(I)Z"⟩, prog_1_method_13_code, 0, 3, 1, 0, 2),
  (⟨"GraveRails", "frost", "(I)I"⟩, prog_1_method_14_code, 0, 3, 1, 0, 1),
  (⟨"GraveRails$Course", "freeze", "(I)I"⟩, prog_3_method_14_code, 2, 7, 1, 0, 1),
  (⟨"GraveRails", "undo", "()I"⟩, prog_1_method_15_code, 0, 1, 0, 0, 1),
  (⟨"GraveRails$Acts", "takeBack", "(LGraveRails$State;)Z"⟩, prog_2_method_3_code, 1, 3, 1, 0, 2),
  (⟨"GraveRails", "ahead", "(III)I"⟩, prog_1_method_16_code, 0, 5, 3, 0, 1),
  (⟨"GraveRails", "fall", "(I)I"⟩, prog_1_method_17_code, 0, 3, 1, 0, 1),
  (⟨"GraveRails", "abreast", "(II)I"⟩, prog_1_method_18_code, 0, 5, 2, 0, 1),
  (⟨"GraveRails", "begin", "(II)I"⟩, prog_1_method_19_code, 0, 8, 2, 0, 1),
  (⟨"GraveRails", "fallsWithOneDugAt", "(III)Z"⟩, prog_1_method_20_code, 0, 7, 3, 0, 2),
  (⟨"GraveRails", "dug", "(IIII)I"⟩, prog_1_method_21_code, 0, 9, 4, 0, 1),
  (⟨"GraveRails$Yard", "becomeBare", "(LGraveRails$Yard;)V"⟩, prog_11_method_4_code, 10, 2, 1, 0, 0),
  (⟨"GraveRails", "war", "(I)I"⟩, prog_1_method_22_code, 0, 5, 1, 0, 1),
  (⟨"GraveRails", "order", "(I)I"⟩, prog_1_method_23_code, 0, 3, 1, 0, 1)]
def mm_rows7 : List mm_Row := [(⟨"GraveRails", "sight", "(III)I"⟩, prog_1_method_24_code, 0, 6, 3, 0, 1),
  (⟨"GraveRails$Sights", "add", "(III)V"⟩, prog_7_method_3_code, 6, 4, 3, 0, 0),
  (⟨"GraveRails", "unpaid", "(I)I"⟩, prog_1_method_25_code, 0, 2, 1, 0, 1),
  (⟨"GraveRails$Sets", "find", "(LGraveRails$World;LGraveRails$Rule;LGraveRails$Course;)V"⟩, prog_6_method_2_code, 5, 5, 3, 0, 0),
  (⟨"GraveRails$Sets", "takeOpen", "()V"⟩, prog_6_method_3_code, 5, 2, 0, 0, 0),
  (⟨"GraveRails$Sets", "isSeen", "(ILGraveRails$Sights;LGraveRails$Course;)Z"⟩, prog_6_method_5_code, 5, 7, 3, 0, 2),
  (⟨"GraveRails$Sets", "startWith", "(ILGraveRails$Course;)V"⟩, prog_6_method_4_code, 5, 4, 2, 0, 0),
  (⟨"GraveRails$Sights", "last", "()I"⟩, prog_7_method_4_code, 6, 3, 0, 0, 1),
  (⟨"GraveRails$Sights", "agree", "(LGraveRails$State;)Z"⟩, prog_7_method_5_code, 6, 3, 1, 0, 2),
  (⟨"GraveRails$Sets", "inAll", "()I"⟩, prog_6_method_6_code, 5, 3, 0, 0, 1),
  (⟨"GraveRails$Sets", "inNone", "()I"⟩, prog_6_method_7_code, 5, 3, 0, 0, 1),
  (⟨"GraveRails", "look", "(II)I"⟩, prog_1_method_26_code, 0, 3, 2, 0, 1),
  (⟨"GraveRails$Sets", "part", "(ILGraveRails$Course;)V"⟩, prog_6_method_8_code, 5, 5, 2, 0, 0),
  (⟨"GraveRails$Sets", "countCells", "(LGraveRails$State;)V"⟩, prog_6_method_9_code, 5, 4, 1, 0, 0),
  (⟨"GraveRails$Sets", "mostAlike", "(I)I"⟩, prog_6_method_10_code, 5, 5, 1, 0, 1),
  (⟨"GraveRails", "seed", "(I)I"⟩, prog_1_method_27_code, 0, 3, 1, 0, 1)]
def mm_rows8 : List mm_Row := [(⟨"GraveRails", "drawn", "(IIII)I"⟩, prog_1_method_28_code, 0, 11, 4, 0, 1),
  (⟨"GraveRails", "count", "(I)I"⟩, prog_1_method_29_code, 0, 3, 1, 0, 1),
  (⟨"GraveRails$State", "whoIsHeld", "()I"⟩, prog_8_method_9_code, 7, 3, 0, 0, 1),
  (⟨"GraveRails$State", "allRounds", "()I"⟩, prog_8_method_10_code, 7, 3, 0, 0, 1),
  (⟨"GraveRails", "image", "(I)I"⟩, prog_1_method_30_code, 0, 3, 1, 0, 1),
  (⟨"GraveRails", "imageNumber", "(I)LGraveRails$World;"⟩, prog_1_method_32_code, 0, 2, 1, 0, 6),
  (⟨"GraveRails$World", "copyFrom", "(LGraveRails$World;)V"⟩, prog_10_method_2_code, 9, 2, 1, 0, 0),
  (⟨"GraveRails$Sights", "copyFrom", "(LGraveRails$Sights;)V"⟩, prog_7_method_2_code, 6, 2, 1, 0, 0),
  (⟨"GraveRails", "back", "(I)I"⟩, prog_1_method_31_code, 0, 3, 1, 0, 1),
  (⟨"GraveRailsModel", "<init>", "()V"⟩, prog_14_method_1_code, 12, 1, 0, 2, 0),
  (⟨"GraveRailsModel", "feed", "(IIIII)I"⟩, prog_14_method_5_code, 12, 6, 5, 0, 1),
  (⟨"GraveRailsModel", "four", "(I)V"⟩, prog_14_method_4_code, 12, 3, 1, 0, 0),
  (⟨"GraveRailsModel", "end", "(I)I"⟩, prog_14_method_6_code, 12, 2, 1, 0, 1),
  (⟨"GraveRailsModel", "rule", "()I"⟩, prog_14_method_43_code, 12, 1, 0, 0, 1),
  (⟨"GraveRailsModel", "readsAll", "()Z"⟩, prog_14_method_42_code, 12, 2, 0, 0, 2),
  (⟨"GraveRailsModel", "clauseHere", "()Z"⟩, prog_14_method_41_code, 12, 3, 0, 0, 2)]
def mm_rows9 : List mm_Row := [(⟨"GraveRailsModel", "see", "()I"⟩, prog_14_method_8_code, 12, 1, 0, 0, 1),
  (⟨"GraveRailsModel", "isYardWord", "()Z"⟩, prog_14_method_40_code, 12, 1, 0, 0, 2),
  (⟨"GraveRailsModel", "isWord", "(J)Z"⟩, prog_14_method_11_code, 12, 6, 1, 0, 2),
  (⟨"GraveRailsModel", "isLetter", "(I)Z"⟩, prog_14_method_10_code, 12, 2, 1, 0, 2),
  (⟨"GraveRailsModel", "fails", "(II)Z"⟩, prog_14_method_7_code, 12, 3, 2, 0, 2),
  (⟨"GraveRailsModel", "yardLineHere", "(I)Z"⟩, prog_14_method_39_code, 12, 2, 1, 0, 2),
  (⟨"GraveRailsModel", "isYardHere", "(I)Z"⟩, prog_14_method_31_code, 12, 2, 1, 0, 2),
  (⟨"GraveRailsModel", "passWord", "()V"⟩, prog_14_method_12_code, 12, 1, 0, 0, 0),
  (⟨"GraveRailsModel", "cellHere", "(III)Z"⟩, prog_14_method_30_code, 12, 4, 3, 0, 2),
  (⟨"GraveRailsModel", "numberHere", "(II)Z"⟩, prog_14_method_14_code, 12, 5, 2, 0, 2),
  (⟨"GraveRailsModel", "isDigit", "(I)Z"⟩, prog_14_method_9_code, 12, 2, 1, 0, 2),
  (⟨"GraveRailsModel", "in", "(JJJ)Z"⟩, prog_14_method_2_code, 12, 6, 3, 1, 2),
  (⟨"GraveRailsModel", "isGraveHere", "(I)Z"⟩, prog_14_method_33_code, 12, 6, 1, 0, 2),
  (⟨"GraveRailsModel", "kindHere", "()I"⟩, prog_14_method_32_code, 12, 1, 0, 0, 1),
  (⟨"GraveRailsModel", "takesWord", "(J)Z"⟩, prog_14_method_13_code, 12, 3, 1, 0, 2),
  (⟨"GraveRailsModel", "isPairHere", "()Z"⟩, prog_14_method_35_code, 12, 3, 0, 0, 2)]
def mm_rows10 : List mm_Row := [(⟨"GraveRailsModel", "singleHere", "()Z"⟩, prog_14_method_34_code, 12, 2, 0, 0, 2),
  (⟨"GraveRailsModel", "isRootHere", "(I)Z"⟩, prog_14_method_36_code, 12, 5, 1, 0, 2),
  (⟨"GraveRailsModel", "isHeavyHere", "()Z"⟩, prog_14_method_37_code, 12, 1, 0, 0, 2),
  (⟨"GraveRailsModel", "isFloodHere", "(I)Z"⟩, prog_14_method_38_code, 12, 4, 1, 0, 2),
  (⟨"GraveRailsModel", "isGoHere", "()Z"⟩, prog_14_method_29_code, 12, 2, 0, 0, 2),
  (⟨"GraveRailsModel", "sum", "()Z"⟩, prog_14_method_23_code, 12, 2, 0, 0, 2),
  (⟨"GraveRailsModel", "term", "()Z"⟩, prog_14_method_22_code, 12, 2, 0, 0, 2),
  (⟨"GraveRailsModel", "value", "()Z"⟩, prog_14_method_21_code, 12, 3, 0, 0, 2),
  (⟨"GraveRailsModel", "makes", "(I)Z"⟩, prog_14_method_17_code, 12, 2, 1, 0, 2),
  (⟨"GraveRailsModel", "puts", "(II)V"⟩, prog_14_method_16_code, 12, 3, 2, 0, 0),
  (⟨"GraveRailsModel", "wordHere", "()I"⟩, prog_14_method_15_code, 12, 1, 0, 0, 1),
  (⟨"GraveRailsModel", "tested", "()Z"⟩, prog_14_method_28_code, 12, 3, 0, 0, 2),
  (⟨"GraveRailsModel", "fact", "()Z"⟩, prog_14_method_25_code, 12, 3, 0, 0, 2),
  (⟨"GraveRailsModel", "opens", "(I)Z"⟩, prog_14_method_18_code, 12, 2, 1, 0, 2),
  (⟨"GraveRailsModel", "compare", "()Z"⟩, prog_14_method_24_code, 12, 5, 0, 0, 2),
  (⟨"GraveRailsModel", "closes", "()V"⟩, prog_14_method_27_code, 12, 1, 0, 0, 0)]
def mm_rows11 : List mm_Row := [(⟨"GraveRailsModel", "settles", "(I)V"⟩, prog_14_method_20_code, 12, 2, 1, 0, 0),
  (⟨"GraveRailsModel", "strength", "(I)I"⟩, prog_14_method_19_code, 12, 1, 1, 1, 1),
  (⟨"GraveRailsModel", "isInside", "()Z"⟩, prog_14_method_26_code, 12, 2, 0, 0, 2),
  (⟨"GraveRailsModel", "yard", "()I"⟩, prog_14_method_44_code, 12, 2, 0, 0, 1),
  (⟨"GraveRailsModel", "graveOf", "(II)I"⟩, prog_14_method_52_code, 12, 3, 2, 0, 1),
  (⟨"GraveRailsModel", "force", "(I)I"⟩, prog_14_method_57_code, 12, 3, 1, 0, 1),
  (⟨"GraveRailsModel", "isRule", "(I)Z"⟩, prog_14_method_45_code, 12, 2, 1, 0, 2),
  (⟨"GraveRailsModel", "grave", "(II)I"⟩, prog_14_method_58_code, 12, 3, 2, 0, 1),
  (⟨"GraveRailsModel", "isGrave", "(I)Z"⟩, prog_14_method_51_code, 12, 2, 1, 0, 2),
  (⟨"GraveRailsModel", "stone", "(II)I"⟩, prog_14_method_59_code, 12, 5, 2, 0, 1),
  (⟨"GraveRailsModel", "graveAt", "(II)I"⟩, prog_14_method_55_code, 12, 4, 2, 0, 1),
  (⟨"GraveRailsModel", "at", "(II)I"⟩, prog_14_method_60_code, 12, 3, 2, 0, 1),
  (⟨"GraveRailsModel", "isPlace", "(II)Z"⟩, prog_14_method_54_code, 12, 3, 2, 0, 2),
  (⟨"GraveRailsModel", "root", "(II)I"⟩, prog_14_method_61_code, 12, 3, 2, 0, 1),
  (⟨"GraveRailsModel", "rootAt", "(II)I"⟩, prog_14_method_56_code, 12, 4, 2, 0, 1),
  (⟨"GraveRailsModel", "undo", "()I"⟩, prog_14_method_76_code, 12, 2, 0, 0, 1)]
def mm_rows12 : List mm_Row := [(⟨"GraveRailsModel", "year", "()I"⟩, prog_14_method_77_code, 12, 1, 0, 0, 1),
  (⟨"GraveRailsModel", "isYard", "()Z"⟩, prog_14_method_50_code, 12, 1, 0, 0, 2),
  (⟨"GraveRailsModel", "keepsAct", "()V"⟩, prog_14_method_75_code, 12, 2, 0, 0, 0),
  (⟨"GraveRailsModel", "passes", "()I"⟩, prog_14_method_74_code, 12, 2, 0, 0, 1),
  (⟨"GraveRailsModel", "isFlood", "()Z"⟩, prog_14_method_62_code, 12, 3, 0, 0, 2),
  (⟨"GraveRailsModel", "sorts", "(I)V"⟩, prog_14_method_72_code, 12, 5, 1, 0, 0),
  (⟨"GraveRailsModel", "falls", "(I)V"⟩, prog_14_method_63_code, 12, 3, 1, 0, 0),
  (⟨"GraveRailsModel", "turns", "(I)V"⟩, prog_14_method_71_code, 12, 5, 1, 0, 0),
  (⟨"GraveRailsModel", "isNearer", "(I)Z"⟩, prog_14_method_70_code, 12, 3, 1, 0, 2),
  (⟨"GraveRailsModel", "isFallen", "(I)Z"⟩, prog_14_method_53_code, 12, 2, 1, 0, 2),
  (⟨"GraveRailsModel", "stepsOf", "(I)I"⟩, prog_14_method_66_code, 12, 8, 1, 0, 1),
  (⟨"GraveRailsModel", "behindOf", "(I)I"⟩, prog_14_method_65_code, 12, 4, 1, 0, 1),
  (⟨"GraveRailsModel", "fallenMany", "()I"⟩, prog_14_method_64_code, 12, 3, 0, 0, 1),
  (⟨"GraveRailsModel", "reckons", "(III)J"⟩, prog_14_method_49_code, 12, 11, 3, 0, 3),
  (⟨"GraveRailsModel", "push", "(J)V"⟩, prog_14_method_46_code, 12, 3, 1, 0, 0),
  (⟨"GraveRailsModel", "pop", "()J"⟩, prog_14_method_47_code, 12, 1, 0, 0, 3)]
def mm_rows13 : List mm_Row := [(⟨"GraveRailsModel", "one", "(IJJ)J"⟩, prog_14_method_48_code, 12, 5, 3, 1, 3),
  (⟨"GraveRailsModel", "steps", "(I)Z"⟩, prog_14_method_69_code, 12, 6, 1, 0, 2),
  (⟨"GraveRailsModel", "comesInto", "(III)Z"⟩, prog_14_method_67_code, 12, 5, 3, 0, 2),
  (⟨"GraveRailsModel", "isFree", "(II)Z"⟩, prog_14_method_68_code, 12, 3, 2, 0, 2),
  (⟨"GraveRailsModel", "stonesGo", "()V"⟩, prog_14_method_73_code, 12, 4, 0, 0, 0),
  (⟨"GraveRailsModel", "dig", "(III)I"⟩, prog_14_method_79_code, 12, 4, 3, 0, 1),
  (⟨"GraveRailsModel", "digs", "(III)V"⟩, prog_14_method_78_code, 12, 7, 3, 0, 0),
  (⟨"GraveRailsModel", "pay", "(I)Z"⟩, prog_14_method_80_code, 12, 2, 1, 0, 2),
  (⟨"GraveRailsModel", "frost", "(I)I"⟩, prog_14_method_82_code, 12, 2, 1, 0, 1),
  (⟨"GraveRailsModel", "freezes", "(IZ)I"⟩, prog_14_method_81_code, 12, 8, 2, 0, 1),
  (⟨"GraveRailsModel", "ahead", "(III)I"⟩, prog_14_method_85_code, 12, 5, 3, 0, 1),
  (⟨"GraveRailsModel", "keeps", "()V"⟩, prog_14_method_83_code, 12, 2, 0, 0, 0),
  (⟨"GraveRailsModel", "laysBack", "()V"⟩, prog_14_method_84_code, 12, 2, 0, 0, 0),
  (⟨"GraveRailsModel", "fall", "(I)I"⟩, prog_14_method_87_code, 12, 3, 1, 0, 1),
  (⟨"GraveRailsModel", "fallOf", "(I)I"⟩, prog_14_method_86_code, 12, 3, 1, 0, 1),
  (⟨"GraveRailsModel", "abreast", "(II)I"⟩, prog_14_method_89_code, 12, 5, 2, 0, 1)]
def mm_rows14 : List mm_Row := [(⟨"GraveRailsModel", "areAbreast", "(II)Z"⟩, prog_14_method_88_code, 12, 3, 2, 0, 2),
  (⟨"GraveRailsModel", "begin", "(II)I"⟩, prog_14_method_91_code, 12, 8, 2, 0, 1),
  (⟨"GraveRailsModel", "fallTogether", "(III)Z"⟩, prog_14_method_90_code, 12, 7, 3, 0, 2),
  (⟨"GraveRailsModel", "dug", "(IIII)I"⟩, prog_14_method_92_code, 12, 10, 4, 0, 1),
  (⟨"GraveRailsModel", "sight", "(III)I"⟩, prog_14_method_93_code, 12, 5, 3, 0, 1),
  (⟨"GraveRailsModel", "unpaid", "(I)I"⟩, prog_14_method_100_code, 12, 5, 1, 0, 1),
  (⟨"GraveRailsModel", "gathersFit", "()V"⟩, prog_14_method_99_code, 12, 3, 0, 0, 0),
  (⟨"GraveRailsModel", "inQuestion", "()I"⟩, prog_14_method_94_code, 12, 3, 0, 0, 1),
  (⟨"GraveRailsModel", "fitsSights", "(I)Z"⟩, prog_14_method_98_code, 12, 4, 1, 0, 2),
  (⟨"GraveRailsModel", "beginsBy", "(I)V"⟩, prog_14_method_95_code, 12, 4, 1, 0, 0),
  (⟨"GraveRailsModel", "isOf", "(II)Z"⟩, prog_14_method_3_code, 12, 2, 2, 1, 2),
  (⟨"GraveRailsModel", "lastSight", "()I"⟩, prog_14_method_97_code, 12, 3, 0, 0, 1),
  (⟨"GraveRailsModel", "isSeenSo", "()Z"⟩, prog_14_method_96_code, 12, 3, 0, 0, 2),
  (⟨"GraveRailsModel", "look", "(II)I"⟩, prog_14_method_102_code, 12, 8, 2, 0, 1),
  (⟨"GraveRailsModel", "countsCells", "(I)V"⟩, prog_14_method_101_code, 12, 4, 1, 0, 0),
  (⟨"GraveRailsModel", "war", "(I)I"⟩, prog_14_method_103_code, 12, 5, 1, 0, 1)]
def mm_rows15 : List mm_Row := [(⟨"GraveRailsModel", "order", "(I)I"⟩, prog_14_method_104_code, 12, 5, 1, 0, 1),
  (⟨"GraveRailsModel", "seed", "(I)I"⟩, prog_14_method_105_code, 12, 3, 1, 0, 1),
  (⟨"GraveRailsModel", "drawn", "(IIII)I"⟩, prog_14_method_107_code, 12, 9, 4, 0, 1),
  (⟨"GraveRailsModel", "draw", "(I)I"⟩, prog_14_method_106_code, 12, 2, 1, 0, 1),
  (⟨"GraveRailsModel", "count", "(I)I"⟩, prog_14_method_108_code, 12, 4, 1, 0, 1),
  (⟨"GraveRailsModel", "image", "(I)I"⟩, prog_14_method_109_code, 12, 3, 1, 0, 1),
  (⟨"GraveRailsModel", "back", "(I)I"⟩, prog_14_method_110_code, 12, 3, 1, 0, 1),
  (⟨"java/util/Arrays", "fill", "([II)V"⟩, prog_20_method_103_code, 14, 4, 2, 1, 0),
  (⟨"java/lang/String", "length", "()I"⟩, prog_16_method_54_code, 15, 1, 0, 0, 1),
  (⟨"java/lang/String", "charAt", "(I)C"⟩, prog_16_method_56_code, 15, 2, 1, 0, 5),
  (⟨"GraveRailsLaw", "law", "([I)Z"⟩, code, 13, 4, 1, 1, 2)]
def mm_rows : List mm_Row := mm_rows0 ++ (mm_rows1 ++ (mm_rows2 ++ (mm_rows3 ++ (mm_rows4 ++ (mm_rows5 ++ (mm_rows6 ++ (mm_rows7 ++ (mm_rows8 ++ (mm_rows9 ++ (mm_rows10 ++ (mm_rows11 ++ (mm_rows12 ++ (mm_rows13 ++ (mm_rows14 ++ (mm_rows15)))))))))))))))
def mm_row (j : Nat) : mm_Row := mm_rows.getD j (⟨"", "", ""⟩, ⟨#[]⟩, 0, 0, 0, 0, 0)
def mm_y (j : Nat) : MethodName := (mm_row j).1
def mm_by (j : Nat) : ByteArray := (mm_row j).2.1
def mm_ow (j : Nat) : Nat := (mm_row j).2.2.1
def mm_ml (j : Nat) : Nat := (mm_row j).2.2.2.1
def mm_np (j : Nat) : Nat := (mm_row j).2.2.2.2.1
def mm_st (j : Nat) : Nat := (mm_row j).2.2.2.2.2.1
def mm_rk (j : Nat) : Nat := (mm_row j).2.2.2.2.2.2
def mm_rt (j : Nat) : Option FieldType := mm_rto (mm_rk j)
/-- what every method of the table has (the law apart) -/
def mm_rok (r : mm_Row) : Prop := r.1.name = "law" ∨ (Cond.code r.1 r.2.1 r.2.2.2.1 (mm_rto r.2.2.2.2.2.2) ∈ mm_gw ∧ (if r.2.2.2.2.2.1 = 1 then Cond.static r.1 else Cond.instanceMethod r.1) ∈ mm_gw ∧ Cond.initialized r.1.cls ∈ mm_gw ∧
  (r.2.2.2.2.2.1 = 1 ∨ (r.2.2.2.2.2.1 = 2 ∧ r.1.name = "<init>") ∨ (r.2.2.2.2.2.1 = 0 ∧ Cond.selects r.1.cls r.1 r.1 ∈ mm_gw)) ∧ ((r.1.cls ≠ "java/lang/invoke/MethodHandle" ∧ r.1.cls ≠ "java/lang/invoke/VarHandle") ∧ plainName r.1.cls = true) ∧ (parseMethodDescriptor r.1.desc).map (fun d => d.parameters.length) = some r.2.2.2.2.1 ∧ r.1.cls = mm_R r.2.2.1)
theorem mm_pl0 : ("GraveRails" ≠ "java/lang/invoke/MethodHandle" ∧ "GraveRails" ≠ "java/lang/invoke/VarHandle") ∧ plainName "GraveRails" = true := by decide +kernel
theorem mm_pl1 : ("GraveRails$Acts" ≠ "java/lang/invoke/MethodHandle" ∧ "GraveRails$Acts" ≠ "java/lang/invoke/VarHandle") ∧ plainName "GraveRails$Acts" = true := by decide +kernel
theorem mm_pl2 : ("GraveRails$Course" ≠ "java/lang/invoke/MethodHandle" ∧ "GraveRails$Course" ≠ "java/lang/invoke/VarHandle") ∧ plainName "GraveRails$Course" = true := by decide +kernel
theorem mm_pl3 : ("GraveRails$Rule" ≠ "java/lang/invoke/MethodHandle" ∧ "GraveRails$Rule" ≠ "java/lang/invoke/VarHandle") ∧ plainName "GraveRails$Rule" = true := by decide +kernel
theorem mm_pl4 : ("GraveRails$RuleReader" ≠ "java/lang/invoke/MethodHandle" ∧ "GraveRails$RuleReader" ≠ "java/lang/invoke/VarHandle") ∧ plainName "GraveRails$RuleReader" = true := by decide +kernel
theorem mm_pl5 : ("GraveRails$Sets" ≠ "java/lang/invoke/MethodHandle" ∧ "GraveRails$Sets" ≠ "java/lang/invoke/VarHandle") ∧ plainName "GraveRails$Sets" = true := by decide +kernel
theorem mm_pl6 : ("GraveRails$Sights" ≠ "java/lang/invoke/MethodHandle" ∧ "GraveRails$Sights" ≠ "java/lang/invoke/VarHandle") ∧ plainName "GraveRails$Sights" = true := by decide +kernel
theorem mm_pl7 : ("GraveRails$State" ≠ "java/lang/invoke/MethodHandle" ∧ "GraveRails$State" ≠ "java/lang/invoke/VarHandle") ∧ plainName "GraveRails$State" = true := by decide +kernel
theorem mm_pl8 : ("GraveRails$Text" ≠ "java/lang/invoke/MethodHandle" ∧ "GraveRails$Text" ≠ "java/lang/invoke/VarHandle") ∧ plainName "GraveRails$Text" = true := by decide +kernel
theorem mm_pl9 : ("GraveRails$World" ≠ "java/lang/invoke/MethodHandle" ∧ "GraveRails$World" ≠ "java/lang/invoke/VarHandle") ∧ plainName "GraveRails$World" = true := by decide +kernel
theorem mm_pl10 : ("GraveRails$Yard" ≠ "java/lang/invoke/MethodHandle" ∧ "GraveRails$Yard" ≠ "java/lang/invoke/VarHandle") ∧ plainName "GraveRails$Yard" = true := by decide +kernel
theorem mm_pl11 : ("GraveRails$YardReader" ≠ "java/lang/invoke/MethodHandle" ∧ "GraveRails$YardReader" ≠ "java/lang/invoke/VarHandle") ∧ plainName "GraveRails$YardReader" = true := by decide +kernel
theorem mm_pl12 : ("GraveRailsLaw" ≠ "java/lang/invoke/MethodHandle" ∧ "GraveRailsLaw" ≠ "java/lang/invoke/VarHandle") ∧ plainName "GraveRailsLaw" = true := by decide +kernel
theorem mm_pl13 : ("GraveRailsModel" ≠ "java/lang/invoke/MethodHandle" ∧ "GraveRailsModel" ≠ "java/lang/invoke/VarHandle") ∧ plainName "GraveRailsModel" = true := by decide +kernel
theorem mm_pl14 : ("java/lang/String" ≠ "java/lang/invoke/MethodHandle" ∧ "java/lang/String" ≠ "java/lang/invoke/VarHandle") ∧ plainName "java/lang/String" = true := by decide +kernel
theorem mm_pl15 : ("java/util/Arrays" ≠ "java/lang/invoke/MethodHandle" ∧ "java/util/Arrays" ≠ "java/lang/invoke/VarHandle") ∧ plainName "java/util/Arrays" = true := by decide +kernel
theorem mm_ds0 : (parseMethodDescriptor "()I").map (fun d => d.parameters.length) = some 0 := by decide +kernel
theorem mm_ds1 : (parseMethodDescriptor "()J").map (fun d => d.parameters.length) = some 0 := by decide +kernel
theorem mm_ds2 : (parseMethodDescriptor "()LGraveRails$Rule;").map (fun d => d.parameters.length) = some 0 := by decide +kernel
theorem mm_ds3 : (parseMethodDescriptor "()LGraveRails$State;").map (fun d => d.parameters.length) = some 0 := by decide +kernel
theorem mm_ds4 : (parseMethodDescriptor "()V").map (fun d => d.parameters.length) = some 0 := by decide +kernel
theorem mm_ds5 : (parseMethodDescriptor "()Z").map (fun d => d.parameters.length) = some 0 := by decide +kernel
theorem mm_ds6 : (parseMethodDescriptor "(I)C").map (fun d => d.parameters.length) = some 1 := by decide +kernel
theorem mm_ds7 : (parseMethodDescriptor "(I)I").map (fun d => d.parameters.length) = some 1 := by decide +kernel
theorem mm_ds8 : (parseMethodDescriptor "(I)LGraveRails$World;").map (fun d => d.parameters.length) = some 1 := by decide +kernel
theorem mm_ds9 : (parseMethodDescriptor "(I)V").map (fun d => d.parameters.length) = some 1 := by decide +kernel
theorem mm_ds10 : (parseMethodDescriptor "(I)Z").map (fun d => d.parameters.length) = some 1 := by decide +kernel
theorem mm_ds11 : (parseMethodDescriptor "(II)I").map (fun d => d.parameters.length) = some 2 := by decide +kernel
theorem mm_ds12 : (parseMethodDescriptor "(II)V").map (fun d => d.parameters.length) = some 2 := by decide +kernel
theorem mm_ds13 : (parseMethodDescriptor "(II)Z").map (fun d => d.parameters.length) = some 2 := by decide +kernel
theorem mm_ds14 : (parseMethodDescriptor "(III)I").map (fun d => d.parameters.length) = some 3 := by decide +kernel
theorem mm_ds15 : (parseMethodDescriptor "(III)J").map (fun d => d.parameters.length) = some 3 := by decide +kernel
theorem mm_ds16 : (parseMethodDescriptor "(III)V").map (fun d => d.parameters.length) = some 3 := by decide +kernel
theorem mm_ds17 : (parseMethodDescriptor "(III)Z").map (fun d => d.parameters.length) = some 3 := by decide +kernel
theorem mm_ds18 : (parseMethodDescriptor "(IIII)I").map (fun d => d.parameters.length) = some 4 := by decide +kernel
theorem mm_ds19 : (parseMethodDescriptor "(IIIII)I").map (fun d => d.parameters.length) = some 5 := by decide +kernel
theorem mm_ds20 : (parseMethodDescriptor "(II[J)J").map (fun d => d.parameters.length) = some 3 := by decide +kernel
theorem mm_ds21 : (parseMethodDescriptor "(IJJ)J").map (fun d => d.parameters.length) = some 3 := by decide +kernel
theorem mm_ds22 : (parseMethodDescriptor "(ILGraveRails$Course;)V").map (fun d => d.parameters.length) = some 2 := by decide +kernel
theorem mm_ds23 : (parseMethodDescriptor "(ILGraveRails$Sights;LGraveRails$Course;)Z").map (fun d => d.parameters.length) = some 3 := by decide +kernel
theorem mm_ds24 : (parseMethodDescriptor "(IZ)I").map (fun d => d.parameters.length) = some 2 := by decide +kernel
theorem mm_ds25 : (parseMethodDescriptor "(J)V").map (fun d => d.parameters.length) = some 1 := by decide +kernel
theorem mm_ds26 : (parseMethodDescriptor "(J)Z").map (fun d => d.parameters.length) = some 1 := by decide +kernel
theorem mm_ds27 : (parseMethodDescriptor "(JJJ)Z").map (fun d => d.parameters.length) = some 3 := by decide +kernel
theorem mm_ds28 : (parseMethodDescriptor "(LGraveRails$Rule;)I").map (fun d => d.parameters.length) = some 1 := by decide +kernel
theorem mm_ds29 : (parseMethodDescriptor "(LGraveRails$Sights;)V").map (fun d => d.parameters.length) = some 1 := by decide +kernel
theorem mm_ds30 : (parseMethodDescriptor "(LGraveRails$State;)V").map (fun d => d.parameters.length) = some 1 := by decide +kernel
theorem mm_ds31 : (parseMethodDescriptor "(LGraveRails$State;)Z").map (fun d => d.parameters.length) = some 1 := by decide +kernel
theorem mm_ds32 : (parseMethodDescriptor "(LGraveRails$Text;)V").map (fun d => d.parameters.length) = some 1 := by decide +kernel
theorem mm_ds33 : (parseMethodDescriptor "(LGraveRails$World;)V").map (fun d => d.parameters.length) = some 1 := by decide +kernel
theorem mm_ds34 : (parseMethodDescriptor "(LGraveRails$World;LGraveRails$Rule;LGraveRails$Course;)V").map (fun d => d.parameters.length) = some 3 := by decide +kernel
theorem mm_ds35 : (parseMethodDescriptor "(LGraveRails$Yard;)V").map (fun d => d.parameters.length) = some 1 := by decide +kernel
theorem mm_ds36 : (parseMethodDescriptor "(LGraveRails$Yard;LGraveRails$State;LGraveRails$Rule;)V").map (fun d => d.parameters.length) = some 3 := by decide +kernel
theorem mm_ds37 : (parseMethodDescriptor "(Ljava/lang/String;)I").map (fun d => d.parameters.length) = some 1 := by decide +kernel
theorem mm_ds38 : (parseMethodDescriptor "(Ljava/lang/String;)Z").map (fun d => d.parameters.length) = some 1 := by decide +kernel
theorem mm_ds39 : (parseMethodDescriptor "([I)Z").map (fun d => d.parameters.length) = some 1 := by decide +kernel
theorem mm_ds40 : (parseMethodDescriptor "([II)V").map (fun d => d.parameters.length) = some 2 := by decide +kernel
theorem mm_ds41 : (parseMethodDescriptor "([J)I").map (fun d => d.parameters.length) = some 1 := by decide +kernel
theorem mm_k0 : mm_rok (⟨"GraveRails", "<init>", "()V"⟩, prog_1_method_1_code, 0, 2, 0, 2, 0) := Or.inr ⟨mm_t1 (i := 25) rfl rfl, mm_t1 (i := 24) rfl rfl, mm_t1 (i := 1) rfl rfl, Or.inr (Or.inl ⟨rfl, rfl⟩), mm_pl0, mm_ds4, rfl⟩
theorem mm_k1 : mm_rok (⟨"GraveRails$Text", "<init>", "()V"⟩, prog_9_method_1_code, 8, 1, 0, 2, 0) := Or.inr ⟨mm_t1 (i := 33) rfl rfl, mm_t1 (i := 32) rfl rfl, mm_t1 (i := 2) rfl rfl, Or.inr (Or.inl ⟨rfl, rfl⟩), mm_pl8, mm_ds4, rfl⟩
theorem mm_k2 : mm_rok (⟨"GraveRails$YardReader", "<init>", "(LGraveRails$Text;)V"⟩, prog_12_method_1_code, 11, 2, 1, 2, 0) := Or.inr ⟨mm_t1 (i := 67) rfl rfl, mm_t1 (i := 66) rfl rfl, mm_t1 (i := 3) rfl rfl, Or.inr (Or.inl ⟨rfl, rfl⟩), mm_pl11, mm_ds32, rfl⟩
theorem mm_k3 : mm_rok (⟨"GraveRails$Yard", "<init>", "()V"⟩, prog_11_method_1_code, 10, 1, 0, 2, 0) := Or.inr ⟨mm_t1 (i := 73) rfl rfl, mm_t1 (i := 72) rfl rfl, mm_t1 (i := 4) rfl rfl, Or.inr (Or.inl ⟨rfl, rfl⟩), mm_pl10, mm_ds4, rfl⟩
theorem mm_k4 : mm_rok (⟨"GraveRails$RuleReader", "<init>", "(LGraveRails$Text;)V"⟩, prog_5_method_1_code, 4, 2, 1, 2, 0) := Or.inr ⟨mm_t1 (i := 144) rfl rfl, mm_t1 (i := 143) rfl rfl, mm_t1 (i := 6) rfl rfl, Or.inr (Or.inl ⟨rfl, rfl⟩), mm_pl4, mm_ds32, rfl⟩
theorem mm_k5 : mm_rok (⟨"GraveRails$Rule", "<init>", "()V"⟩, prog_4_method_1_code, 3, 1, 0, 2, 0) := Or.inr ⟨mm_t1 (i := 150) rfl rfl, mm_t1 (i := 149) rfl rfl, mm_t1 (i := 7) rfl rfl, Or.inr (Or.inl ⟨rfl, rfl⟩), mm_pl3, mm_ds4, rfl⟩
theorem mm_k6 : mm_rok (⟨"GraveRails$World", "<init>", "()V"⟩, prog_10_method_1_code, 9, 1, 0, 2, 0) := Or.inr ⟨mm_t1 (i := 191) rfl rfl, mm_t1 (i := 190) rfl rfl, mm_t1 (i := 8) rfl rfl, Or.inr (Or.inl ⟨rfl, rfl⟩), mm_pl9, mm_ds4, rfl⟩
theorem mm_k7 : mm_rok (⟨"GraveRails$State", "<init>", "()V"⟩, prog_8_method_1_code, 7, 1, 0, 2, 0) := Or.inr ⟨mm_t1 (i := 199) rfl rfl, mm_t1 (i := 198) rfl rfl, mm_t1 (i := 9) rfl rfl, Or.inr (Or.inl ⟨rfl, rfl⟩), mm_pl7, mm_ds4, rfl⟩
theorem mm_k8 : mm_rok (⟨"GraveRails$Sights", "<init>", "()V"⟩, prog_7_method_1_code, 6, 1, 0, 2, 0) := Or.inr ⟨mm_t2 (i := 32) rfl rfl, mm_t2 (i := 31) rfl rfl, mm_t1 (i := 10) rfl rfl, Or.inr (Or.inl ⟨rfl, rfl⟩), mm_pl6, mm_ds4, rfl⟩
theorem mm_k9 : mm_rok (⟨"GraveRails$Acts", "<init>", "()V"⟩, prog_2_method_1_code, 1, 2, 0, 2, 0) := Or.inr ⟨mm_t2 (i := 79) rfl rfl, mm_t2 (i := 78) rfl rfl, mm_t1 (i := 11) rfl rfl, Or.inr (Or.inl ⟨rfl, rfl⟩), mm_pl1, mm_ds4, rfl⟩
theorem mm_k10 : mm_rok (⟨"GraveRails$Course", "<init>", "()V"⟩, prog_3_method_1_code, 2, 1, 0, 2, 0) := Or.inr ⟨mm_t2 (i := 99) rfl rfl, mm_t2 (i := 98) rfl rfl, mm_t1 (i := 12) rfl rfl, Or.inr (Or.inl ⟨rfl, rfl⟩), mm_pl2, mm_ds4, rfl⟩
theorem mm_k11 : mm_rok (⟨"GraveRails$Sets", "<init>", "()V"⟩, prog_6_method_1_code, 5, 1, 0, 2, 0) := Or.inr ⟨mm_t2 (i := 152) rfl rfl, mm_t2 (i := 151) rfl rfl, mm_t1 (i := 13) rfl rfl, Or.inr (Or.inl ⟨rfl, rfl⟩), mm_pl5, mm_ds4, rfl⟩
theorem mm_k12 : mm_rok (⟨"GraveRails", "feed", "(IIIII)I"⟩, prog_1_method_2_code, 0, 6, 5, 0, 1) := Or.inr ⟨mm_t3 (i := 1) rfl rfl, mm_t2 (i := 239) rfl rfl, mm_t1 (i := 1) rfl rfl, Or.inr (Or.inr ⟨rfl, mm_t3 (i := 0) rfl rfl⟩), mm_pl0, mm_ds19, rfl⟩
theorem mm_k13 : mm_rok (⟨"GraveRails$Text", "addNumber", "(I)V"⟩, prog_9_method_2_code, 8, 3, 1, 0, 0) := Or.inr ⟨mm_t3 (i := 5) rfl rfl, mm_t3 (i := 3) rfl rfl, mm_t1 (i := 2) rfl rfl, Or.inr (Or.inr ⟨rfl, mm_t3 (i := 4) rfl rfl⟩), mm_pl8, mm_ds9, rfl⟩
theorem mm_k14 : mm_rok (⟨"GraveRails", "end", "(I)I"⟩, prog_1_method_3_code, 0, 2, 1, 0, 1) := Or.inr ⟨mm_t3 (i := 9) rfl rfl, mm_t3 (i := 7) rfl rfl, mm_t1 (i := 1) rfl rfl, Or.inr (Or.inr ⟨rfl, mm_t3 (i := 8) rfl rfl⟩), mm_pl0, mm_ds7, rfl⟩
theorem mm_k15 : mm_rok (⟨"GraveRails", "yard", "()I"⟩, prog_1_method_4_code, 0, 2, 0, 0, 1) := Or.inr ⟨mm_t3 (i := 13) rfl rfl, mm_t3 (i := 11) rfl rfl, mm_t1 (i := 1) rfl rfl, Or.inr (Or.inr ⟨rfl, mm_t3 (i := 12) rfl rfl⟩), mm_pl0, mm_ds0, rfl⟩
theorem mm_rok0 : ∀ r ∈ mm_rows0, mm_rok r := List.forall_mem_cons.mpr ⟨mm_k0, List.forall_mem_cons.mpr ⟨mm_k1, List.forall_mem_cons.mpr ⟨mm_k2, List.forall_mem_cons.mpr ⟨mm_k3, List.forall_mem_cons.mpr ⟨mm_k4, List.forall_mem_cons.mpr ⟨mm_k5, List.forall_mem_cons.mpr ⟨mm_k6, List.forall_mem_cons.mpr ⟨mm_k7, List.forall_mem_cons.mpr ⟨mm_k8, List.forall_mem_cons.mpr ⟨mm_k9, List.forall_mem_cons.mpr ⟨mm_k10, List.forall_mem_cons.mpr ⟨mm_k11, List.forall_mem_cons.mpr ⟨mm_k12, List.forall_mem_cons.mpr ⟨mm_k13, List.forall_mem_cons.mpr ⟨mm_k14, List.forall_mem_cons.mpr ⟨mm_k15, fun _ h => absurd h List.not_mem_nil⟩⟩⟩⟩⟩⟩⟩⟩⟩⟩⟩⟩⟩⟩⟩⟩
theorem mm_k16 : mm_rok (⟨"GraveRails$YardReader", "readYard", "()I"⟩, prog_12_method_2_code, 11, 3, 0, 0, 1) := Or.inr ⟨mm_t3 (i := 17) rfl rfl, mm_t3 (i := 15) rfl rfl, mm_t1 (i := 3) rfl rfl, Or.inr (Or.inr ⟨rfl, mm_t3 (i := 16) rfl rfl⟩), mm_pl11, mm_ds0, rfl⟩
theorem mm_k17 : mm_rok (⟨"GraveRails$Yard", "clear", "()V"⟩, prog_11_method_2_code, 10, 1, 0, 0, 0) := Or.inr ⟨mm_t3 (i := 21) rfl rfl, mm_t3 (i := 19) rfl rfl, mm_t1 (i := 4) rfl rfl, Or.inr (Or.inr ⟨rfl, mm_t3 (i := 20) rfl rfl⟩), mm_pl10, mm_ds4, rfl⟩
theorem mm_k18 : mm_rok (⟨"GraveRails$Text", "rewind", "()V"⟩, prog_9_method_3_code, 8, 1, 0, 0, 0) := Or.inr ⟨mm_t3 (i := 25) rfl rfl, mm_t3 (i := 23) rfl rfl, mm_t1 (i := 2) rfl rfl, Or.inr (Or.inr ⟨rfl, mm_t3 (i := 24) rfl rfl⟩), mm_pl8, mm_ds4, rfl⟩
theorem mm_k19 : mm_rok (⟨"GraveRails$Text", "advance", "()V"⟩, prog_9_method_5_code, 8, 2, 0, 0, 0) := Or.inr ⟨mm_t3 (i := 29) rfl rfl, mm_t3 (i := 27) rfl rfl, mm_t1 (i := 2) rfl rfl, Or.inr (Or.inr ⟨rfl, mm_t3 (i := 28) rfl rfl⟩), mm_pl8, mm_ds4, rfl⟩
theorem mm_k20 : mm_rok (⟨"GraveRails$Text", "passNumber", "()V"⟩, prog_9_method_6_code, 8, 2, 0, 0, 0) := Or.inr ⟨mm_t3 (i := 36) rfl rfl, mm_t3 (i := 35) rfl rfl, mm_t1 (i := 2) rfl rfl, Or.inr (Or.inr ⟨rfl, mm_s1 (i := 0) rfl⟩), mm_pl8, mm_ds4, rfl⟩
theorem mm_k21 : mm_rok (⟨"GraveRails$Text", "passWord", "()V"⟩, prog_9_method_7_code, 8, 1, 0, 0, 0) := Or.inr ⟨mm_t3 (i := 40) rfl rfl, mm_t3 (i := 39) rfl rfl, mm_t1 (i := 2) rfl rfl, Or.inr (Or.inr ⟨rfl, mm_s1 (i := 1) rfl⟩), mm_pl8, mm_ds4, rfl⟩
theorem mm_k22 : mm_rok (⟨"GraveRails$Text", "passSign", "(I)V"⟩, prog_9_method_8_code, 8, 3, 1, 0, 0) := Or.inr ⟨mm_t3 (i := 44) rfl rfl, mm_t3 (i := 43) rfl rfl, mm_t1 (i := 2) rfl rfl, Or.inr (Or.inr ⟨rfl, mm_s1 (i := 2) rfl⟩), mm_pl8, mm_ds9, rfl⟩
theorem mm_k23 : mm_rok (⟨"GraveRails$YardReader", "readClause", "(I)V"⟩, prog_12_method_3_code, 11, 4, 1, 0, 0) := Or.inr ⟨mm_t3 (i := 48) rfl rfl, mm_t3 (i := 47) rfl rfl, mm_t1 (i := 3) rfl rfl, Or.inr (Or.inr ⟨rfl, mm_s1 (i := 3) rfl⟩), mm_pl11, mm_ds9, rfl⟩
theorem mm_k24 : mm_rok (⟨"GraveRails$Text", "wordAmong", "(Ljava/lang/String;)I"⟩, prog_9_method_9_code, 8, 6, 1, 0, 1) := Or.inr ⟨mm_t3 (i := 53) rfl rfl, mm_t3 (i := 51) rfl rfl, mm_t1 (i := 2) rfl rfl, Or.inr (Or.inr ⟨rfl, mm_t3 (i := 52) rfl rfl⟩), mm_pl8, mm_ds37, rfl⟩
theorem mm_k25 : mm_rok (⟨"GraveRails$Text", "refuse", "(I)V"⟩, prog_9_method_4_code, 8, 2, 1, 0, 0) := Or.inr ⟨mm_t3 (i := 105) rfl rfl, mm_t3 (i := 103) rfl rfl, mm_t1 (i := 2) rfl rfl, Or.inr (Or.inr ⟨rfl, mm_t3 (i := 104) rfl rfl⟩), mm_pl8, mm_ds9, rfl⟩
theorem mm_k26 : mm_rok (⟨"GraveRails$YardReader", "isFull", "(I)Z"⟩, prog_12_method_4_code, 11, 2, 1, 0, 2) := Or.inr ⟨mm_t3 (i := 109) rfl rfl, mm_t3 (i := 108) rfl rfl, mm_t1 (i := 3) rfl rfl, Or.inr (Or.inr ⟨rfl, mm_s1 (i := 4) rfl⟩), mm_pl11, mm_ds10, rfl⟩
theorem mm_k27 : mm_rok (⟨"GraveRails$YardReader", "readSize", "()V"⟩, prog_12_method_5_code, 11, 3, 0, 0, 0) := Or.inr ⟨mm_t3 (i := 114) rfl rfl, mm_t3 (i := 113) rfl rfl, mm_t1 (i := 3) rfl rfl, Or.inr (Or.inr ⟨rfl, mm_s1 (i := 5) rfl⟩), mm_pl11, mm_ds4, rfl⟩
theorem mm_k28 : mm_rok (⟨"GraveRails$Text", "numberFrom", "(II)I"⟩, prog_9_method_12_code, 8, 3, 2, 0, 1) := Or.inr ⟨mm_t3 (i := 118) rfl rfl, mm_t3 (i := 116) rfl rfl, mm_t1 (i := 2) rfl rfl, Or.inr (Or.inr ⟨rfl, mm_t3 (i := 117) rfl rfl⟩), mm_pl8, mm_ds11, rfl⟩
theorem mm_k29 : mm_rok (⟨"GraveRails$YardReader", "readGrave", "()V"⟩, prog_12_method_6_code, 11, 4, 0, 0, 0) := Or.inr ⟨mm_t3 (i := 123) rfl rfl, mm_t3 (i := 122) rfl rfl, mm_t1 (i := 3) rfl rfl, Or.inr (Or.inr ⟨rfl, mm_s1 (i := 6) rfl⟩), mm_pl11, mm_ds4, rfl⟩
theorem mm_k30 : mm_rok (⟨"GraveRails$Yard", "isTaken", "(II)Z"⟩, prog_11_method_7_code, 10, 4, 2, 0, 2) := Or.inr ⟨mm_t3 (i := 127) rfl rfl, mm_t3 (i := 125) rfl rfl, mm_t1 (i := 4) rfl rfl, Or.inr (Or.inr ⟨rfl, mm_t3 (i := 126) rfl rfl⟩), mm_pl10, mm_ds13, rfl⟩
theorem mm_k31 : mm_rok (⟨"GraveRails$Yard", "addGrave", "(III)V"⟩, prog_11_method_12_code, 10, 4, 3, 0, 0) := Or.inr ⟨mm_t3 (i := 132) rfl rfl, mm_t3 (i := 130) rfl rfl, mm_t1 (i := 4) rfl rfl, Or.inr (Or.inr ⟨rfl, mm_t3 (i := 131) rfl rfl⟩), mm_pl10, mm_ds16, rfl⟩
theorem mm_rok1 : ∀ r ∈ mm_rows1, mm_rok r := List.forall_mem_cons.mpr ⟨mm_k16, List.forall_mem_cons.mpr ⟨mm_k17, List.forall_mem_cons.mpr ⟨mm_k18, List.forall_mem_cons.mpr ⟨mm_k19, List.forall_mem_cons.mpr ⟨mm_k20, List.forall_mem_cons.mpr ⟨mm_k21, List.forall_mem_cons.mpr ⟨mm_k22, List.forall_mem_cons.mpr ⟨mm_k23, List.forall_mem_cons.mpr ⟨mm_k24, List.forall_mem_cons.mpr ⟨mm_k25, List.forall_mem_cons.mpr ⟨mm_k26, List.forall_mem_cons.mpr ⟨mm_k27, List.forall_mem_cons.mpr ⟨mm_k28, List.forall_mem_cons.mpr ⟨mm_k29, List.forall_mem_cons.mpr ⟨mm_k30, List.forall_mem_cons.mpr ⟨mm_k31, fun _ h => absurd h List.not_mem_nil⟩⟩⟩⟩⟩⟩⟩⟩⟩⟩⟩⟩⟩⟩⟩⟩
theorem mm_k32 : mm_rok (⟨"GraveRails$YardReader", "readPair", "()V"⟩, prog_12_method_7_code, 11, 3, 0, 0, 0) := Or.inr ⟨mm_t3 (i := 136) rfl rfl, mm_t3 (i := 135) rfl rfl, mm_t1 (i := 3) rfl rfl, Or.inr (Or.inr ⟨rfl, mm_s1 (i := 7) rfl⟩), mm_pl11, mm_ds4, rfl⟩
theorem mm_k33 : mm_rok (⟨"GraveRails$YardReader", "readUnpaired", "(I)I"⟩, prog_12_method_8_code, 11, 3, 1, 0, 1) := Or.inr ⟨mm_t3 (i := 140) rfl rfl, mm_t3 (i := 139) rfl rfl, mm_t1 (i := 3) rfl rfl, Or.inr (Or.inr ⟨rfl, mm_s1 (i := 8) rfl⟩), mm_pl11, mm_ds7, rfl⟩
theorem mm_k34 : mm_rok (⟨"GraveRails$Yard", "pairOf", "(I)I"⟩, prog_11_method_10_code, 10, 2, 1, 0, 1) := Or.inr ⟨mm_t3 (i := 144) rfl rfl, mm_t3 (i := 142) rfl rfl, mm_t1 (i := 4) rfl rfl, Or.inr (Or.inr ⟨rfl, mm_t3 (i := 143) rfl rfl⟩), mm_pl10, mm_ds7, rfl⟩
theorem mm_k35 : mm_rok (⟨"GraveRails$Yard", "addPair", "(II)V"⟩, prog_11_method_13_code, 10, 3, 2, 0, 0) := Or.inr ⟨mm_t3 (i := 148) rfl rfl, mm_t3 (i := 146) rfl rfl, mm_t1 (i := 4) rfl rfl, Or.inr (Or.inr ⟨rfl, mm_t3 (i := 147) rfl rfl⟩), mm_pl10, mm_ds12, rfl⟩
theorem mm_k36 : mm_rok (⟨"GraveRails$YardReader", "readRoot", "()V"⟩, prog_12_method_9_code, 11, 4, 0, 0, 0) := Or.inr ⟨mm_t3 (i := 152) rfl rfl, mm_t3 (i := 151) rfl rfl, mm_t1 (i := 3) rfl rfl, Or.inr (Or.inr ⟨rfl, mm_s1 (i := 9) rfl⟩), mm_pl11, mm_ds4, rfl⟩
theorem mm_k37 : mm_rok (⟨"GraveRails$Yard", "rootAt", "(II)I"⟩, prog_11_method_8_code, 10, 4, 2, 0, 1) := Or.inr ⟨mm_t3 (i := 156) rfl rfl, mm_t3 (i := 154) rfl rfl, mm_t1 (i := 4) rfl rfl, Or.inr (Or.inr ⟨rfl, mm_t3 (i := 155) rfl rfl⟩), mm_pl10, mm_ds11, rfl⟩
theorem mm_k38 : mm_rok (⟨"GraveRails$Yard", "addRoot", "(III)V"⟩, prog_11_method_14_code, 10, 4, 3, 0, 0) := Or.inr ⟨mm_t3 (i := 160) rfl rfl, mm_t3 (i := 158) rfl rfl, mm_t1 (i := 4) rfl rfl, Or.inr (Or.inr ⟨rfl, mm_t3 (i := 159) rfl rfl⟩), mm_pl10, mm_ds16, rfl⟩
theorem mm_k39 : mm_rok (⟨"GraveRails$Yard", "hasPlace", "(II)Z"⟩, prog_11_method_6_code, 10, 3, 2, 0, 2) := Or.inr ⟨mm_t3 (i := 164) rfl rfl, mm_t3 (i := 162) rfl rfl, mm_t1 (i := 4) rfl rfl, Or.inr (Or.inr ⟨rfl, mm_t3 (i := 163) rfl rfl⟩), mm_pl10, mm_ds13, rfl⟩
theorem mm_k40 : mm_rok (⟨"GraveRails$YardReader", "readHeavy", "()V"⟩, prog_12_method_10_code, 11, 2, 0, 0, 0) := Or.inr ⟨mm_t3 (i := 168) rfl rfl, mm_t3 (i := 167) rfl rfl, mm_t1 (i := 3) rfl rfl, Or.inr (Or.inr ⟨rfl, mm_s1 (i := 10) rfl⟩), mm_pl11, mm_ds4, rfl⟩
theorem mm_k41 : mm_rok (⟨"GraveRails$Yard", "makeHeavy", "(I)V"⟩, prog_11_method_15_code, 10, 2, 1, 0, 0) := Or.inr ⟨mm_t3 (i := 172) rfl rfl, mm_t3 (i := 170) rfl rfl, mm_t1 (i := 4) rfl rfl, Or.inr (Or.inr ⟨rfl, mm_t3 (i := 171) rfl rfl⟩), mm_pl10, mm_ds9, rfl⟩
theorem mm_k42 : mm_rok (⟨"GraveRails$YardReader", "readFlood", "()V"⟩, prog_12_method_11_code, 11, 2, 0, 0, 0) := Or.inr ⟨mm_t3 (i := 176) rfl rfl, mm_t3 (i := 175) rfl rfl, mm_t1 (i := 3) rfl rfl, Or.inr (Or.inr ⟨rfl, mm_s1 (i := 11) rfl⟩), mm_pl11, mm_ds4, rfl⟩
theorem mm_k43 : mm_rok (⟨"GraveRails$Yard", "isFlood", "(I)Z"⟩, prog_11_method_9_code, 10, 3, 1, 0, 2) := Or.inr ⟨mm_t3 (i := 180) rfl rfl, mm_t3 (i := 178) rfl rfl, mm_t1 (i := 4) rfl rfl, Or.inr (Or.inr ⟨rfl, mm_t3 (i := 179) rfl rfl⟩), mm_pl10, mm_ds10, rfl⟩
theorem mm_k44 : mm_rok (⟨"GraveRails$Yard", "addFlood", "(I)V"⟩, prog_11_method_16_code, 10, 2, 1, 0, 0) := Or.inr ⟨mm_t3 (i := 184) rfl rfl, mm_t3 (i := 182) rfl rfl, mm_t1 (i := 4) rfl rfl, Or.inr (Or.inr ⟨rfl, mm_t3 (i := 183) rfl rfl⟩), mm_pl10, mm_ds9, rfl⟩
theorem mm_k45 : mm_rok (⟨"GraveRails$Text", "takeMore", "()Z"⟩, prog_9_method_13_code, 8, 1, 0, 0, 2) := Or.inr ⟨mm_t3 (i := 188) rfl rfl, mm_t3 (i := 186) rfl rfl, mm_t1 (i := 2) rfl rfl, Or.inr (Or.inr ⟨rfl, mm_t3 (i := 187) rfl rfl⟩), mm_pl8, mm_ds5, rfl⟩
theorem mm_k46 : mm_rok (⟨"GraveRails$Text", "isSign", "(I)Z"⟩, prog_9_method_11_code, 8, 2, 1, 0, 2) := Or.inr ⟨mm_t3 (i := 192) rfl rfl, mm_t3 (i := 190) rfl rfl, mm_t1 (i := 2) rfl rfl, Or.inr (Or.inr ⟨rfl, mm_t3 (i := 191) rfl rfl⟩), mm_pl8, mm_ds10, rfl⟩
theorem mm_k47 : mm_rok (⟨"GraveRails$Yard", "copyFrom", "(LGraveRails$Yard;)V"⟩, prog_11_method_3_code, 10, 2, 1, 0, 0) := Or.inr ⟨mm_t3 (i := 196) rfl rfl, mm_t3 (i := 194) rfl rfl, mm_t1 (i := 4) rfl rfl, Or.inr (Or.inr ⟨rfl, mm_t3 (i := 195) rfl rfl⟩), mm_pl10, mm_ds35, rfl⟩
theorem mm_rok2 : ∀ r ∈ mm_rows2, mm_rok r := List.forall_mem_cons.mpr ⟨mm_k32, List.forall_mem_cons.mpr ⟨mm_k33, List.forall_mem_cons.mpr ⟨mm_k34, List.forall_mem_cons.mpr ⟨mm_k35, List.forall_mem_cons.mpr ⟨mm_k36, List.forall_mem_cons.mpr ⟨mm_k37, List.forall_mem_cons.mpr ⟨mm_k38, List.forall_mem_cons.mpr ⟨mm_k39, List.forall_mem_cons.mpr ⟨mm_k40, List.forall_mem_cons.mpr ⟨mm_k41, List.forall_mem_cons.mpr ⟨mm_k42, List.forall_mem_cons.mpr ⟨mm_k43, List.forall_mem_cons.mpr ⟨mm_k44, List.forall_mem_cons.mpr ⟨mm_k45, List.forall_mem_cons.mpr ⟨mm_k46, List.forall_mem_cons.mpr ⟨mm_k47, fun _ h => absurd h List.not_mem_nil⟩⟩⟩⟩⟩⟩⟩⟩⟩⟩⟩⟩⟩⟩⟩⟩
theorem mm_k48 : mm_rok (⟨"GraveRails$State", "startOf", "(LGraveRails$Yard;)V"⟩, prog_8_method_3_code, 7, 3, 1, 0, 0) := Or.inr ⟨mm_t3 (i := 203) rfl rfl, mm_t3 (i := 201) rfl rfl, mm_t1 (i := 9) rfl rfl, Or.inr (Or.inr ⟨rfl, mm_t3 (i := 202) rfl rfl⟩), mm_pl7, mm_ds35, rfl⟩
theorem mm_k49 : mm_rok (⟨"GraveRails$State", "add", "(III)V"⟩, prog_8_method_4_code, 7, 5, 3, 0, 0) := Or.inr ⟨mm_t3 (i := 207) rfl rfl, mm_t3 (i := 205) rfl rfl, mm_t1 (i := 9) rfl rfl, Or.inr (Or.inr ⟨rfl, mm_t3 (i := 206) rfl rfl⟩), mm_pl7, mm_ds16, rfl⟩
theorem mm_k50 : mm_rok (⟨"GraveRails", "rule", "()I"⟩, prog_1_method_5_code, 0, 2, 0, 0, 1) := Or.inr ⟨mm_t3 (i := 211) rfl rfl, mm_t3 (i := 209) rfl rfl, mm_t1 (i := 1) rfl rfl, Or.inr (Or.inr ⟨rfl, mm_t3 (i := 210) rfl rfl⟩), mm_pl0, mm_ds0, rfl⟩
theorem mm_k51 : mm_rok (⟨"GraveRails$RuleReader", "readRule", "(LGraveRails$Rule;)I"⟩, prog_5_method_2_code, 4, 4, 1, 0, 1) := Or.inr ⟨mm_t3 (i := 215) rfl rfl, mm_t3 (i := 213) rfl rfl, mm_t1 (i := 6) rfl rfl, Or.inr (Or.inr ⟨rfl, mm_t3 (i := 214) rfl rfl⟩), mm_pl4, mm_ds28, rfl⟩
theorem mm_k52 : mm_rok (⟨"GraveRails$Rule", "clear", "()V"⟩, prog_4_method_2_code, 3, 1, 0, 0, 0) := Or.inr ⟨mm_t3 (i := 219) rfl rfl, mm_t3 (i := 217) rfl rfl, mm_t1 (i := 7) rfl rfl, Or.inr (Or.inr ⟨rfl, mm_t3 (i := 218) rfl rfl⟩), mm_pl3, mm_ds4, rfl⟩
theorem mm_k53 : mm_rok (⟨"GraveRails$Rule", "openClause", "()V"⟩, prog_4_method_4_code, 3, 1, 0, 0, 0) := Or.inr ⟨mm_t3 (i := 228) rfl rfl, mm_t3 (i := 226) rfl rfl, mm_t1 (i := 7) rfl rfl, Or.inr (Or.inr ⟨rfl, mm_t3 (i := 227) rfl rfl⟩), mm_pl3, mm_ds4, rfl⟩
theorem mm_k54 : mm_rok (⟨"GraveRails$RuleReader", "readSum", "()V"⟩, prog_5_method_5_code, 4, 5, 0, 0, 0) := Or.inr ⟨mm_t3 (i := 232) rfl rfl, mm_t3 (i := 231) rfl rfl, mm_t1 (i := 6) rfl rfl, Or.inr (Or.inr ⟨rfl, mm_s1 (i := 12) rfl⟩), mm_pl4, mm_ds4, rfl⟩
theorem mm_k55 : mm_rok (⟨"GraveRails$RuleReader", "readValue", "()V"⟩, prog_5_method_6_code, 4, 2, 0, 0, 0) := Or.inr ⟨mm_t3 (i := 236) rfl rfl, mm_t3 (i := 235) rfl rfl, mm_t1 (i := 6) rfl rfl, Or.inr (Or.inr ⟨rfl, mm_s1 (i := 13) rfl⟩), mm_pl4, mm_ds4, rfl⟩
theorem mm_k56 : mm_rok (⟨"GraveRails$RuleReader", "countOne", "()V"⟩, prog_5_method_7_code, 4, 1, 0, 0, 0) := Or.inr ⟨mm_t4 (i := 3) rfl rfl, mm_t4 (i := 2) rfl rfl, mm_t1 (i := 6) rfl rfl, Or.inr (Or.inr ⟨rfl, mm_s1 (i := 14) rfl⟩), mm_pl4, mm_ds4, rfl⟩
theorem mm_k57 : mm_rok (⟨"GraveRails$Rule", "emit", "(I)V"⟩, prog_4_method_3_code, 3, 2, 1, 0, 0) := Or.inr ⟨mm_t4 (i := 7) rfl rfl, mm_t4 (i := 5) rfl rfl, mm_t1 (i := 7) rfl rfl, Or.inr (Or.inr ⟨rfl, mm_t4 (i := 6) rfl rfl⟩), mm_pl3, mm_ds9, rfl⟩
theorem mm_k58 : mm_rok (⟨"GraveRails$RuleReader", "signAmong", "(IIIII)I"⟩, prog_5_method_8_code, 4, 7, 5, 0, 1) := Or.inr ⟨mm_t4 (i := 11) rfl rfl, mm_t4 (i := 10) rfl rfl, mm_t1 (i := 6) rfl rfl, Or.inr (Or.inr ⟨rfl, mm_s1 (i := 15) rfl⟩), mm_pl4, mm_ds19, rfl⟩
theorem mm_k59 : mm_rok (⟨"GraveRails$Rule", "openTest", "()V"⟩, prog_4_method_5_code, 3, 1, 0, 0, 0) := Or.inr ⟨mm_t4 (i := 15) rfl rfl, mm_t4 (i := 13) rfl rfl, mm_t1 (i := 7) rfl rfl, Or.inr (Or.inr ⟨rfl, mm_t4 (i := 14) rfl rfl⟩), mm_pl3, mm_ds4, rfl⟩
theorem mm_k60 : mm_rok (⟨"GraveRails$Text", "takeWord", "(Ljava/lang/String;)Z"⟩, prog_9_method_10_code, 8, 2, 1, 0, 2) := Or.inr ⟨mm_t4 (i := 20) rfl rfl, mm_t4 (i := 18) rfl rfl, mm_t1 (i := 2) rfl rfl, Or.inr (Or.inr ⟨rfl, mm_t4 (i := 19) rfl rfl⟩), mm_pl8, mm_ds38, rfl⟩
theorem mm_k61 : mm_rok (⟨"GraveRails$RuleReader", "readTest", "(I)V"⟩, prog_5_method_3_code, 4, 5, 1, 0, 0) := Or.inr ⟨mm_t4 (i := 25) rfl rfl, mm_t4 (i := 24) rfl rfl, mm_t1 (i := 6) rfl rfl, Or.inr (Or.inr ⟨rfl, mm_s2 (i := 0) rfl⟩), mm_pl4, mm_ds9, rfl⟩
theorem mm_k62 : mm_rok (⟨"GraveRails$RuleReader", "readFact", "(I)V"⟩, prog_5_method_4_code, 4, 5, 1, 0, 0) := Or.inr ⟨mm_t4 (i := 29) rfl rfl, mm_t4 (i := 28) rfl rfl, mm_t1 (i := 6) rfl rfl, Or.inr (Or.inr ⟨rfl, mm_s2 (i := 1) rfl⟩), mm_pl4, mm_ds9, rfl⟩
theorem mm_k63 : mm_rok (⟨"GraveRails$Rule", "closeClause", "()V"⟩, prog_4_method_6_code, 3, 1, 0, 0, 0) := Or.inr ⟨mm_t4 (i := 37) rfl rfl, mm_t4 (i := 35) rfl rfl, mm_t1 (i := 7) rfl rfl, Or.inr (Or.inr ⟨rfl, mm_t4 (i := 36) rfl rfl⟩), mm_pl3, mm_ds4, rfl⟩
theorem mm_rok3 : ∀ r ∈ mm_rows3, mm_rok r := List.forall_mem_cons.mpr ⟨mm_k48, List.forall_mem_cons.mpr ⟨mm_k49, List.forall_mem_cons.mpr ⟨mm_k50, List.forall_mem_cons.mpr ⟨mm_k51, List.forall_mem_cons.mpr ⟨mm_k52, List.forall_mem_cons.mpr ⟨mm_k53, List.forall_mem_cons.mpr ⟨mm_k54, List.forall_mem_cons.mpr ⟨mm_k55, List.forall_mem_cons.mpr ⟨mm_k56, List.forall_mem_cons.mpr ⟨mm_k57, List.forall_mem_cons.mpr ⟨mm_k58, List.forall_mem_cons.mpr ⟨mm_k59, List.forall_mem_cons.mpr ⟨mm_k60, List.forall_mem_cons.mpr ⟨mm_k61, List.forall_mem_cons.mpr ⟨mm_k62, List.forall_mem_cons.mpr ⟨mm_k63, fun _ h => absurd h List.not_mem_nil⟩⟩⟩⟩⟩⟩⟩⟩⟩⟩⟩⟩⟩⟩⟩⟩
theorem mm_k64 : mm_rok (⟨"GraveRails", "force", "(I)I"⟩, prog_1_method_6_code, 0, 3, 1, 0, 1) := Or.inr ⟨mm_t4 (i := 42) rfl rfl, mm_t4 (i := 40) rfl rfl, mm_t1 (i := 1) rfl rfl, Or.inr (Or.inr ⟨rfl, mm_t4 (i := 41) rfl rfl⟩), mm_pl0, mm_ds7, rfl⟩
theorem mm_k65 : mm_rok (⟨"GraveRails", "grave", "(II)I"⟩, prog_1_method_7_code, 0, 4, 2, 0, 1) := Or.inr ⟨mm_t4 (i := 46) rfl rfl, mm_t4 (i := 44) rfl rfl, mm_t1 (i := 1) rfl rfl, Or.inr (Or.inr ⟨rfl, mm_t4 (i := 45) rfl rfl⟩), mm_pl0, mm_ds11, rfl⟩
theorem mm_k66 : mm_rok (⟨"GraveRails$State", "has", "(I)Z"⟩, prog_8_method_5_code, 7, 2, 1, 0, 2) := Or.inr ⟨mm_t4 (i := 50) rfl rfl, mm_t4 (i := 48) rfl rfl, mm_t1 (i := 9) rfl rfl, Or.inr (Or.inr ⟨rfl, mm_t4 (i := 49) rfl rfl⟩), mm_pl7, mm_ds10, rfl⟩
theorem mm_k67 : mm_rok (⟨"GraveRails", "stone", "(II)I"⟩, prog_1_method_8_code, 0, 4, 2, 0, 1) := Or.inr ⟨mm_t4 (i := 55) rfl rfl, mm_t4 (i := 53) rfl rfl, mm_t1 (i := 1) rfl rfl, Or.inr (Or.inr ⟨rfl, mm_t4 (i := 54) rfl rfl⟩), mm_pl0, mm_ds11, rfl⟩
theorem mm_k68 : mm_rok (⟨"GraveRails$Yard", "isHeavy", "(I)Z"⟩, prog_11_method_11_code, 10, 2, 1, 0, 2) := Or.inr ⟨mm_t4 (i := 59) rfl rfl, mm_t4 (i := 57) rfl rfl, mm_t1 (i := 4) rfl rfl, Or.inr (Or.inr ⟨rfl, mm_t4 (i := 58) rfl rfl⟩), mm_pl10, mm_ds10, rfl⟩
theorem mm_k69 : mm_rok (⟨"GraveRails$State", "graveAt", "(II)I"⟩, prog_8_method_7_code, 7, 4, 2, 0, 1) := Or.inr ⟨mm_t4 (i := 63) rfl rfl, mm_t4 (i := 61) rfl rfl, mm_t1 (i := 9) rfl rfl, Or.inr (Or.inr ⟨rfl, mm_t4 (i := 62) rfl rfl⟩), mm_pl7, mm_ds11, rfl⟩
theorem mm_k70 : mm_rok (⟨"GraveRails", "at", "(II)I"⟩, prog_1_method_9_code, 0, 3, 2, 0, 1) := Or.inr ⟨mm_t4 (i := 67) rfl rfl, mm_t4 (i := 65) rfl rfl, mm_t1 (i := 1) rfl rfl, Or.inr (Or.inr ⟨rfl, mm_t4 (i := 66) rfl rfl⟩), mm_pl0, mm_ds11, rfl⟩
theorem mm_k71 : mm_rok (⟨"GraveRails", "root", "(II)I"⟩, prog_1_method_10_code, 0, 3, 2, 0, 1) := Or.inr ⟨mm_t4 (i := 72) rfl rfl, mm_t4 (i := 70) rfl rfl, mm_t1 (i := 1) rfl rfl, Or.inr (Or.inr ⟨rfl, mm_t4 (i := 71) rfl rfl⟩), mm_pl0, mm_ds11, rfl⟩
theorem mm_k72 : mm_rok (⟨"GraveRails", "year", "()I"⟩, prog_1_method_11_code, 0, 1, 0, 0, 1) := Or.inr ⟨mm_t4 (i := 77) rfl rfl, mm_t4 (i := 75) rfl rfl, mm_t1 (i := 1) rfl rfl, Or.inr (Or.inr ⟨rfl, mm_t4 (i := 76) rfl rfl⟩), mm_pl0, mm_ds0, rfl⟩
theorem mm_k73 : mm_rok (⟨"GraveRails$Yard", "isTold", "()Z"⟩, prog_11_method_5_code, 10, 1, 0, 0, 2) := Or.inr ⟨mm_t4 (i := 81) rfl rfl, mm_t4 (i := 79) rfl rfl, mm_t1 (i := 4) rfl rfl, Or.inr (Or.inr ⟨rfl, mm_t4 (i := 80) rfl rfl⟩), mm_pl10, mm_ds5, rfl⟩
theorem mm_k74 : mm_rok (⟨"GraveRails$Acts", "keep", "(LGraveRails$State;)V"⟩, prog_2_method_2_code, 1, 3, 1, 0, 0) := Or.inr ⟨mm_t4 (i := 85) rfl rfl, mm_t4 (i := 83) rfl rfl, mm_t1 (i := 11) rfl rfl, Or.inr (Or.inr ⟨rfl, mm_t4 (i := 84) rfl rfl⟩), mm_pl1, mm_ds30, rfl⟩
theorem mm_k75 : mm_rok (⟨"GraveRails$Acts", "nextOne", "()LGraveRails$State;"⟩, prog_2_method_4_code, 1, 1, 0, 0, 7) := Or.inr ⟨mm_t4 (i := 89) rfl rfl, mm_t4 (i := 88) rfl rfl, mm_t1 (i := 11) rfl rfl, Or.inr (Or.inr ⟨rfl, mm_s2 (i := 2) rfl⟩), mm_pl1, mm_ds3, rfl⟩
theorem mm_k76 : mm_rok (⟨"GraveRails$State", "copyFrom", "(LGraveRails$State;)V"⟩, prog_8_method_2_code, 7, 2, 1, 0, 0) := Or.inr ⟨mm_t4 (i := 93) rfl rfl, mm_t4 (i := 91) rfl rfl, mm_t1 (i := 9) rfl rfl, Or.inr (Or.inr ⟨rfl, mm_t4 (i := 92) rfl rfl⟩), mm_pl7, mm_ds30, rfl⟩
theorem mm_k77 : mm_rok (⟨"GraveRails", "startFromNow", "()V"⟩, prog_1_method_33_code, 0, 1, 0, 0, 0) := Or.inr ⟨mm_t4 (i := 101) rfl rfl, mm_t4 (i := 100) rfl rfl, mm_t1 (i := 1) rfl rfl, Or.inr (Or.inr ⟨rfl, mm_s2 (i := 3) rfl⟩), mm_pl0, mm_ds4, rfl⟩
theorem mm_k78 : mm_rok (⟨"GraveRails", "ruleInForce", "()LGraveRails$Rule;"⟩, prog_1_method_34_code, 0, 2, 0, 0, 4) := Or.inr ⟨mm_t4 (i := 105) rfl rfl, mm_t4 (i := 104) rfl rfl, mm_t1 (i := 1) rfl rfl, Or.inr (Or.inr ⟨rfl, mm_s2 (i := 4) rfl⟩), mm_pl0, mm_ds2, rfl⟩
theorem mm_k79 : mm_rok (⟨"GraveRails$Course", "start", "(LGraveRails$Yard;LGraveRails$State;LGraveRails$Rule;)V"⟩, prog_3_method_2_code, 2, 4, 3, 0, 0) := Or.inr ⟨mm_t4 (i := 109) rfl rfl, mm_t4 (i := 107) rfl rfl, mm_t1 (i := 12) rfl rfl, Or.inr (Or.inr ⟨rfl, mm_t4 (i := 108) rfl rfl⟩), mm_pl2, mm_ds36, rfl⟩
theorem mm_rok4 : ∀ r ∈ mm_rows4, mm_rok r := List.forall_mem_cons.mpr ⟨mm_k64, List.forall_mem_cons.mpr ⟨mm_k65, List.forall_mem_cons.mpr ⟨mm_k66, List.forall_mem_cons.mpr ⟨mm_k67, List.forall_mem_cons.mpr ⟨mm_k68, List.forall_mem_cons.mpr ⟨mm_k69, List.forall_mem_cons.mpr ⟨mm_k70, List.forall_mem_cons.mpr ⟨mm_k71, List.forall_mem_cons.mpr ⟨mm_k72, List.forall_mem_cons.mpr ⟨mm_k73, List.forall_mem_cons.mpr ⟨mm_k74, List.forall_mem_cons.mpr ⟨mm_k75, List.forall_mem_cons.mpr ⟨mm_k76, List.forall_mem_cons.mpr ⟨mm_k77, List.forall_mem_cons.mpr ⟨mm_k78, List.forall_mem_cons.mpr ⟨mm_k79, fun _ h => absurd h List.not_mem_nil⟩⟩⟩⟩⟩⟩⟩⟩⟩⟩⟩⟩⟩⟩⟩⟩
theorem mm_k80 : mm_rok (⟨"GraveRails$Course", "goYear", "()V"⟩, prog_3_method_3_code, 2, 2, 0, 0, 0) := Or.inr ⟨mm_t4 (i := 114) rfl rfl, mm_t4 (i := 112) rfl rfl, mm_t1 (i := 12) rfl rfl, Or.inr (Or.inr ⟨rfl, mm_t4 (i := 113) rfl rfl⟩), mm_pl2, mm_ds4, rfl⟩
theorem mm_k81 : mm_rok (⟨"GraveRails$Course", "floodRows", "()V"⟩, prog_3_method_4_code, 2, 3, 0, 0, 0) := Or.inr ⟨mm_t4 (i := 119) rfl rfl, mm_t4 (i := 118) rfl rfl, mm_t1 (i := 12) rfl rfl, Or.inr (Or.inr ⟨rfl, mm_s2 (i := 5) rfl⟩), mm_pl2, mm_ds4, rfl⟩
theorem mm_k82 : mm_rok (⟨"GraveRails$Course", "takeOrder", "()V"⟩, prog_3_method_6_code, 2, 4, 0, 0, 0) := Or.inr ⟨mm_t4 (i := 123) rfl rfl, mm_t4 (i := 122) rfl rfl, mm_t1 (i := 12) rfl rfl, Or.inr (Or.inr ⟨rfl, mm_s2 (i := 6) rfl⟩), mm_pl2, mm_ds4, rfl⟩
theorem mm_k83 : mm_rok (⟨"GraveRails$State", "lies", "(I)Z"⟩, prog_8_method_6_code, 7, 2, 1, 0, 2) := Or.inr ⟨mm_t4 (i := 127) rfl rfl, mm_t4 (i := 125) rfl rfl, mm_t1 (i := 9) rfl rfl, Or.inr (Or.inr ⟨rfl, mm_t4 (i := 126) rfl rfl⟩), mm_pl7, mm_ds10, rfl⟩
theorem mm_k84 : mm_rok (⟨"GraveRails$Course", "drop", "(I)V"⟩, prog_3_method_5_code, 2, 2, 1, 0, 0) := Or.inr ⟨mm_t4 (i := 131) rfl rfl, mm_t4 (i := 130) rfl rfl, mm_t1 (i := 12) rfl rfl, Or.inr (Or.inr ⟨rfl, mm_s2 (i := 7) rfl⟩), mm_pl2, mm_ds9, rfl⟩
theorem mm_k85 : mm_rok (⟨"GraveRails$Course", "takeTurn", "(I)V"⟩, prog_3_method_7_code, 2, 5, 1, 0, 0) := Or.inr ⟨mm_t4 (i := 135) rfl rfl, mm_t4 (i := 134) rfl rfl, mm_t1 (i := 12) rfl rfl, Or.inr (Or.inr ⟨rfl, mm_s2 (i := 8) rfl⟩), mm_pl2, mm_ds9, rfl⟩
theorem mm_k86 : mm_rok (⟨"GraveRails$Course", "fartherBy", "(I)I"⟩, prog_3_method_8_code, 2, 3, 1, 0, 1) := Or.inr ⟨mm_t4 (i := 139) rfl rfl, mm_t4 (i := 138) rfl rfl, mm_t1 (i := 12) rfl rfl, Or.inr (Or.inr ⟨rfl, mm_s2 (i := 9) rfl⟩), mm_pl2, mm_ds7, rfl⟩
theorem mm_k87 : mm_rok (⟨"GraveRails$Course", "fillWords", "(I)V"⟩, prog_3_method_9_code, 2, 4, 1, 0, 0) := Or.inr ⟨mm_t4 (i := 144) rfl rfl, mm_t4 (i := 143) rfl rfl, mm_t1 (i := 12) rfl rfl, Or.inr (Or.inr ⟨rfl, mm_s2 (i := 10) rfl⟩), mm_pl2, mm_ds9, rfl⟩
theorem mm_k88 : mm_rok (⟨"GraveRails$State", "countBehind", "(II)I"⟩, prog_8_method_8_code, 7, 5, 2, 0, 1) := Or.inr ⟨mm_t4 (i := 150) rfl rfl, mm_t4 (i := 148) rfl rfl, mm_t1 (i := 9) rfl rfl, Or.inr (Or.inr ⟨rfl, mm_t4 (i := 149) rfl rfl⟩), mm_pl7, mm_ds11, rfl⟩
theorem mm_k89 : mm_rok (⟨"GraveRails$Rule", "stepsBy", "([J)I"⟩, prog_4_method_7_code, 3, 6, 1, 0, 1) := Or.inr ⟨mm_t4 (i := 154) rfl rfl, mm_t4 (i := 152) rfl rfl, mm_t1 (i := 7) rfl rfl, Or.inr (Or.inr ⟨rfl, mm_t4 (i := 153) rfl rfl⟩), mm_pl3, mm_ds41, rfl⟩
theorem mm_k90 : mm_rok (⟨"GraveRails$Rule", "worth", "(II[J)J"⟩, prog_4_method_8_code, 3, 7, 3, 0, 3) := Or.inr ⟨mm_t4 (i := 158) rfl rfl, mm_t4 (i := 157) rfl rfl, mm_t1 (i := 7) rfl rfl, Or.inr (Or.inr ⟨rfl, mm_s2 (i := 11) rfl⟩), mm_pl3, mm_ds20, rfl⟩
theorem mm_k91 : mm_rok (⟨"GraveRails$Rule", "join", "(IJJ)J"⟩, prog_4_method_9_code, 3, 5, 3, 1, 3) := Or.inr ⟨mm_t4 (i := 162) rfl rfl, mm_t4 (i := 161) rfl rfl, mm_t1 (i := 7) rfl rfl, Or.inl rfl, mm_pl3, mm_ds21, rfl⟩
theorem mm_k92 : mm_rok (⟨"GraveRails$Course", "goStep", "(I)Z"⟩, prog_3_method_10_code, 2, 5, 1, 0, 2) := Or.inr ⟨mm_t4 (i := 173) rfl rfl, mm_t4 (i := 172) rfl rfl, mm_t1 (i := 12) rfl rfl, Or.inr (Or.inr ⟨rfl, mm_s2 (i := 12) rfl⟩), mm_pl2, mm_ds10, rfl⟩
theorem mm_k93 : mm_rok (⟨"GraveRails$Course", "laneRound", "(III)I"⟩, prog_3_method_11_code, 2, 4, 3, 0, 1) := Or.inr ⟨mm_t4 (i := 177) rfl rfl, mm_t4 (i := 176) rfl rfl, mm_t1 (i := 12) rfl rfl, Or.inr (Or.inr ⟨rfl, mm_s2 (i := 13) rfl⟩), mm_pl2, mm_ds14, rfl⟩
theorem mm_k94 : mm_rok (⟨"GraveRails$Course", "comeTo", "(III)V"⟩, prog_3_method_12_code, 2, 4, 3, 0, 0) := Or.inr ⟨mm_t4 (i := 181) rfl rfl, mm_t4 (i := 180) rfl rfl, mm_t1 (i := 12) rfl rfl, Or.inr (Or.inr ⟨rfl, mm_s2 (i := 14) rfl⟩), mm_pl2, mm_ds16, rfl⟩
theorem mm_k95 : mm_rok (⟨"GraveRails$Course", "moveStones", "()V"⟩, prog_3_method_13_code, 2, 4, 0, 0, 0) := Or.inr ⟨mm_t4 (i := 186) rfl rfl, mm_t4 (i := 185) rfl rfl, mm_t1 (i := 12) rfl rfl, Or.inr (Or.inr ⟨rfl, mm_s2 (i := 15) rfl⟩), mm_pl2, mm_ds4, rfl⟩
theorem mm_rok5 : ∀ r ∈ mm_rows5, mm_rok r := List.forall_mem_cons.mpr ⟨mm_k80, List.forall_mem_cons.mpr ⟨mm_k81, List.forall_mem_cons.mpr ⟨mm_k82, List.forall_mem_cons.mpr ⟨mm_k83, List.forall_mem_cons.mpr ⟨mm_k84, List.forall_mem_cons.mpr ⟨mm_k85, List.forall_mem_cons.mpr ⟨mm_k86, List.forall_mem_cons.mpr ⟨mm_k87, List.forall_mem_cons.mpr ⟨mm_k88, List.forall_mem_cons.mpr ⟨mm_k89, List.forall_mem_cons.mpr ⟨mm_k90, List.forall_mem_cons.mpr ⟨mm_k91, List.forall_mem_cons.mpr ⟨mm_k92, List.forall_mem_cons.mpr ⟨mm_k93, List.forall_mem_cons.mpr ⟨mm_k94, List.forall_mem_cons.mpr ⟨mm_k95, fun _ h => absurd h List.not_mem_nil⟩⟩⟩⟩⟩⟩⟩⟩⟩⟩⟩⟩⟩⟩⟩⟩
theorem mm_k96 : mm_rok (⟨"GraveRails", "dig", "(III)I"⟩, prog_1_method_12_code, 0, 5, 3, 0, 1) := Or.inr ⟨mm_t4 (i := 192) rfl rfl, mm_t4 (i := 190) rfl rfl, mm_t1 (i := 1) rfl rfl, Or.inr (Or.inr ⟨rfl, mm_t4 (i := 191) rfl rfl⟩), mm_pl0, mm_ds14, rfl⟩
theorem mm_k97 : mm_rok (⟨"GraveRails", "isFree", "(II)Z"⟩, prog_1_method_35_code, 0, 3, 2, 0, 2) := Or.inr ⟨mm_t4 (i := 196) rfl rfl, mm_t4 (i := 195) rfl rfl, mm_t1 (i := 1) rfl rfl, Or.inr (Or.inr ⟨rfl, mm_s3 (i := 0) rfl⟩), mm_pl0, mm_ds13, rfl⟩
theorem mm_k98 : mm_rok (⟨"GraveRails", "pay", "(I)Z"⟩, prog_1_method_13_code, 0, 3, 1, 0, 2) := Or.inr ⟨mm_t4 (i := 201) rfl rfl, mm_t4 (i := 199) rfl rfl, mm_t1 (i := 1) rfl rfl, Or.inr (Or.inr ⟨rfl, mm_t4 (i := 200) rfl rfl⟩), mm_pl0, mm_ds10, rfl⟩
theorem mm_k99 : mm_rok (⟨"GraveRails", "frost", "(I)I"⟩, prog_1_method_14_code, 0, 3, 1, 0, 1) := Or.inr ⟨mm_t4 (i := 206) rfl rfl, mm_t4 (i := 204) rfl rfl, mm_t1 (i := 1) rfl rfl, Or.inr (Or.inr ⟨rfl, mm_t4 (i := 205) rfl rfl⟩), mm_pl0, mm_ds7, rfl⟩
theorem mm_k100 : mm_rok (⟨"GraveRails$Course", "freeze", "(I)I"⟩, prog_3_method_14_code, 2, 7, 1, 0, 1) := Or.inr ⟨mm_t4 (i := 210) rfl rfl, mm_t4 (i := 208) rfl rfl, mm_t1 (i := 12) rfl rfl, Or.inr (Or.inr ⟨rfl, mm_t4 (i := 209) rfl rfl⟩), mm_pl2, mm_ds7, rfl⟩
theorem mm_k101 : mm_rok (⟨"GraveRails", "undo", "()I"⟩, prog_1_method_15_code, 0, 1, 0, 0, 1) := Or.inr ⟨mm_t4 (i := 214) rfl rfl, mm_t4 (i := 212) rfl rfl, mm_t1 (i := 1) rfl rfl, Or.inr (Or.inr ⟨rfl, mm_t4 (i := 213) rfl rfl⟩), mm_pl0, mm_ds0, rfl⟩
theorem mm_k102 : mm_rok (⟨"GraveRails$Acts", "takeBack", "(LGraveRails$State;)Z"⟩, prog_2_method_3_code, 1, 3, 1, 0, 2) := Or.inr ⟨mm_t4 (i := 218) rfl rfl, mm_t4 (i := 216) rfl rfl, mm_t1 (i := 11) rfl rfl, Or.inr (Or.inr ⟨rfl, mm_t4 (i := 217) rfl rfl⟩), mm_pl1, mm_ds31, rfl⟩
theorem mm_k103 : mm_rok (⟨"GraveRails", "ahead", "(III)I"⟩, prog_1_method_16_code, 0, 5, 3, 0, 1) := Or.inr ⟨mm_t4 (i := 222) rfl rfl, mm_t4 (i := 220) rfl rfl, mm_t1 (i := 1) rfl rfl, Or.inr (Or.inr ⟨rfl, mm_t4 (i := 221) rfl rfl⟩), mm_pl0, mm_ds14, rfl⟩
theorem mm_k104 : mm_rok (⟨"GraveRails", "fall", "(I)I"⟩, prog_1_method_17_code, 0, 3, 1, 0, 1) := Or.inr ⟨mm_t4 (i := 226) rfl rfl, mm_t4 (i := 224) rfl rfl, mm_t1 (i := 1) rfl rfl, Or.inr (Or.inr ⟨rfl, mm_t4 (i := 225) rfl rfl⟩), mm_pl0, mm_ds7, rfl⟩
theorem mm_k105 : mm_rok (⟨"GraveRails", "abreast", "(II)I"⟩, prog_1_method_18_code, 0, 5, 2, 0, 1) := Or.inr ⟨mm_t4 (i := 230) rfl rfl, mm_t4 (i := 228) rfl rfl, mm_t1 (i := 1) rfl rfl, Or.inr (Or.inr ⟨rfl, mm_t4 (i := 229) rfl rfl⟩), mm_pl0, mm_ds11, rfl⟩
theorem mm_k106 : mm_rok (⟨"GraveRails", "begin", "(II)I"⟩, prog_1_method_19_code, 0, 8, 2, 0, 1) := Or.inr ⟨mm_t4 (i := 234) rfl rfl, mm_t4 (i := 232) rfl rfl, mm_t1 (i := 1) rfl rfl, Or.inr (Or.inr ⟨rfl, mm_t4 (i := 233) rfl rfl⟩), mm_pl0, mm_ds11, rfl⟩
theorem mm_k107 : mm_rok (⟨"GraveRails", "fallsWithOneDugAt", "(III)Z"⟩, prog_1_method_20_code, 0, 7, 3, 0, 2) := Or.inr ⟨mm_t4 (i := 238) rfl rfl, mm_t4 (i := 237) rfl rfl, mm_t1 (i := 1) rfl rfl, Or.inr (Or.inr ⟨rfl, mm_s3 (i := 1) rfl⟩), mm_pl0, mm_ds17, rfl⟩
theorem mm_k108 : mm_rok (⟨"GraveRails", "dug", "(IIII)I"⟩, prog_1_method_21_code, 0, 9, 4, 0, 1) := Or.inr ⟨mm_t5 (i := 2) rfl rfl, mm_t5 (i := 0) rfl rfl, mm_t1 (i := 1) rfl rfl, Or.inr (Or.inr ⟨rfl, mm_t5 (i := 1) rfl rfl⟩), mm_pl0, mm_ds18, rfl⟩
theorem mm_k109 : mm_rok (⟨"GraveRails$Yard", "becomeBare", "(LGraveRails$Yard;)V"⟩, prog_11_method_4_code, 10, 2, 1, 0, 0) := Or.inr ⟨mm_t5 (i := 6) rfl rfl, mm_t5 (i := 4) rfl rfl, mm_t1 (i := 4) rfl rfl, Or.inr (Or.inr ⟨rfl, mm_t5 (i := 5) rfl rfl⟩), mm_pl10, mm_ds35, rfl⟩
theorem mm_k110 : mm_rok (⟨"GraveRails", "war", "(I)I"⟩, prog_1_method_22_code, 0, 5, 1, 0, 1) := Or.inr ⟨mm_t5 (i := 10) rfl rfl, mm_t5 (i := 8) rfl rfl, mm_t1 (i := 1) rfl rfl, Or.inr (Or.inr ⟨rfl, mm_t5 (i := 9) rfl rfl⟩), mm_pl0, mm_ds7, rfl⟩
theorem mm_k111 : mm_rok (⟨"GraveRails", "order", "(I)I"⟩, prog_1_method_23_code, 0, 3, 1, 0, 1) := Or.inr ⟨mm_t5 (i := 14) rfl rfl, mm_t5 (i := 12) rfl rfl, mm_t1 (i := 1) rfl rfl, Or.inr (Or.inr ⟨rfl, mm_t5 (i := 13) rfl rfl⟩), mm_pl0, mm_ds7, rfl⟩
theorem mm_rok6 : ∀ r ∈ mm_rows6, mm_rok r := List.forall_mem_cons.mpr ⟨mm_k96, List.forall_mem_cons.mpr ⟨mm_k97, List.forall_mem_cons.mpr ⟨mm_k98, List.forall_mem_cons.mpr ⟨mm_k99, List.forall_mem_cons.mpr ⟨mm_k100, List.forall_mem_cons.mpr ⟨mm_k101, List.forall_mem_cons.mpr ⟨mm_k102, List.forall_mem_cons.mpr ⟨mm_k103, List.forall_mem_cons.mpr ⟨mm_k104, List.forall_mem_cons.mpr ⟨mm_k105, List.forall_mem_cons.mpr ⟨mm_k106, List.forall_mem_cons.mpr ⟨mm_k107, List.forall_mem_cons.mpr ⟨mm_k108, List.forall_mem_cons.mpr ⟨mm_k109, List.forall_mem_cons.mpr ⟨mm_k110, List.forall_mem_cons.mpr ⟨mm_k111, fun _ h => absurd h List.not_mem_nil⟩⟩⟩⟩⟩⟩⟩⟩⟩⟩⟩⟩⟩⟩⟩⟩
theorem mm_k112 : mm_rok (⟨"GraveRails", "sight", "(III)I"⟩, prog_1_method_24_code, 0, 6, 3, 0, 1) := Or.inr ⟨mm_t5 (i := 18) rfl rfl, mm_t5 (i := 16) rfl rfl, mm_t1 (i := 1) rfl rfl, Or.inr (Or.inr ⟨rfl, mm_t5 (i := 17) rfl rfl⟩), mm_pl0, mm_ds14, rfl⟩
theorem mm_k113 : mm_rok (⟨"GraveRails$Sights", "add", "(III)V"⟩, prog_7_method_3_code, 6, 4, 3, 0, 0) := Or.inr ⟨mm_t5 (i := 22) rfl rfl, mm_t5 (i := 20) rfl rfl, mm_t1 (i := 10) rfl rfl, Or.inr (Or.inr ⟨rfl, mm_t5 (i := 21) rfl rfl⟩), mm_pl6, mm_ds16, rfl⟩
theorem mm_k114 : mm_rok (⟨"GraveRails", "unpaid", "(I)I"⟩, prog_1_method_25_code, 0, 2, 1, 0, 1) := Or.inr ⟨mm_t5 (i := 26) rfl rfl, mm_t5 (i := 24) rfl rfl, mm_t1 (i := 1) rfl rfl, Or.inr (Or.inr ⟨rfl, mm_t5 (i := 25) rfl rfl⟩), mm_pl0, mm_ds7, rfl⟩
theorem mm_k115 : mm_rok (⟨"GraveRails$Sets", "find", "(LGraveRails$World;LGraveRails$Rule;LGraveRails$Course;)V"⟩, prog_6_method_2_code, 5, 5, 3, 0, 0) := Or.inr ⟨mm_t5 (i := 30) rfl rfl, mm_t5 (i := 28) rfl rfl, mm_t1 (i := 13) rfl rfl, Or.inr (Or.inr ⟨rfl, mm_t5 (i := 29) rfl rfl⟩), mm_pl5, mm_ds34, rfl⟩
theorem mm_k116 : mm_rok (⟨"GraveRails$Sets", "takeOpen", "()V"⟩, prog_6_method_3_code, 5, 2, 0, 0, 0) := Or.inr ⟨mm_t5 (i := 34) rfl rfl, mm_t5 (i := 33) rfl rfl, mm_t1 (i := 13) rfl rfl, Or.inr (Or.inr ⟨rfl, mm_s3 (i := 2) rfl⟩), mm_pl5, mm_ds4, rfl⟩
theorem mm_k117 : mm_rok (⟨"GraveRails$Sets", "isSeen", "(ILGraveRails$Sights;LGraveRails$Course;)Z"⟩, prog_6_method_5_code, 5, 7, 3, 0, 2) := Or.inr ⟨mm_t5 (i := 38) rfl rfl, mm_t5 (i := 37) rfl rfl, mm_t1 (i := 13) rfl rfl, Or.inr (Or.inr ⟨rfl, mm_s3 (i := 3) rfl⟩), mm_pl5, mm_ds23, rfl⟩
theorem mm_k118 : mm_rok (⟨"GraveRails$Sets", "startWith", "(ILGraveRails$Course;)V"⟩, prog_6_method_4_code, 5, 4, 2, 0, 0) := Or.inr ⟨mm_t5 (i := 42) rfl rfl, mm_t5 (i := 41) rfl rfl, mm_t1 (i := 13) rfl rfl, Or.inr (Or.inr ⟨rfl, mm_s3 (i := 4) rfl⟩), mm_pl5, mm_ds22, rfl⟩
theorem mm_k119 : mm_rok (⟨"GraveRails$Sights", "last", "()I"⟩, prog_7_method_4_code, 6, 3, 0, 0, 1) := Or.inr ⟨mm_t5 (i := 48) rfl rfl, mm_t5 (i := 46) rfl rfl, mm_t1 (i := 10) rfl rfl, Or.inr (Or.inr ⟨rfl, mm_t5 (i := 47) rfl rfl⟩), mm_pl6, mm_ds0, rfl⟩
theorem mm_k120 : mm_rok (⟨"GraveRails$Sights", "agree", "(LGraveRails$State;)Z"⟩, prog_7_method_5_code, 6, 3, 1, 0, 2) := Or.inr ⟨mm_t5 (i := 53) rfl rfl, mm_t5 (i := 51) rfl rfl, mm_t1 (i := 10) rfl rfl, Or.inr (Or.inr ⟨rfl, mm_t5 (i := 52) rfl rfl⟩), mm_pl6, mm_ds31, rfl⟩
theorem mm_k121 : mm_rok (⟨"GraveRails$Sets", "inAll", "()I"⟩, prog_6_method_6_code, 5, 3, 0, 0, 1) := Or.inr ⟨mm_t5 (i := 59) rfl rfl, mm_t5 (i := 57) rfl rfl, mm_t1 (i := 13) rfl rfl, Or.inr (Or.inr ⟨rfl, mm_t5 (i := 58) rfl rfl⟩), mm_pl5, mm_ds0, rfl⟩
theorem mm_k122 : mm_rok (⟨"GraveRails$Sets", "inNone", "()I"⟩, prog_6_method_7_code, 5, 3, 0, 0, 1) := Or.inr ⟨mm_t5 (i := 63) rfl rfl, mm_t5 (i := 61) rfl rfl, mm_t1 (i := 13) rfl rfl, Or.inr (Or.inr ⟨rfl, mm_t5 (i := 62) rfl rfl⟩), mm_pl5, mm_ds0, rfl⟩
theorem mm_k123 : mm_rok (⟨"GraveRails", "look", "(II)I"⟩, prog_1_method_26_code, 0, 3, 2, 0, 1) := Or.inr ⟨mm_t5 (i := 67) rfl rfl, mm_t5 (i := 65) rfl rfl, mm_t1 (i := 1) rfl rfl, Or.inr (Or.inr ⟨rfl, mm_t5 (i := 66) rfl rfl⟩), mm_pl0, mm_ds11, rfl⟩
theorem mm_k124 : mm_rok (⟨"GraveRails$Sets", "part", "(ILGraveRails$Course;)V"⟩, prog_6_method_8_code, 5, 5, 2, 0, 0) := Or.inr ⟨mm_t5 (i := 71) rfl rfl, mm_t5 (i := 69) rfl rfl, mm_t1 (i := 13) rfl rfl, Or.inr (Or.inr ⟨rfl, mm_t5 (i := 70) rfl rfl⟩), mm_pl5, mm_ds22, rfl⟩
theorem mm_k125 : mm_rok (⟨"GraveRails$Sets", "countCells", "(LGraveRails$State;)V"⟩, prog_6_method_9_code, 5, 4, 1, 0, 0) := Or.inr ⟨mm_t5 (i := 76) rfl rfl, mm_t5 (i := 75) rfl rfl, mm_t1 (i := 13) rfl rfl, Or.inr (Or.inr ⟨rfl, mm_s3 (i := 5) rfl⟩), mm_pl5, mm_ds30, rfl⟩
theorem mm_k126 : mm_rok (⟨"GraveRails$Sets", "mostAlike", "(I)I"⟩, prog_6_method_10_code, 5, 5, 1, 0, 1) := Or.inr ⟨mm_t5 (i := 81) rfl rfl, mm_t5 (i := 80) rfl rfl, mm_t1 (i := 13) rfl rfl, Or.inr (Or.inr ⟨rfl, mm_s3 (i := 6) rfl⟩), mm_pl5, mm_ds7, rfl⟩
theorem mm_k127 : mm_rok (⟨"GraveRails", "seed", "(I)I"⟩, prog_1_method_27_code, 0, 3, 1, 0, 1) := Or.inr ⟨mm_t5 (i := 86) rfl rfl, mm_t5 (i := 84) rfl rfl, mm_t1 (i := 1) rfl rfl, Or.inr (Or.inr ⟨rfl, mm_t5 (i := 85) rfl rfl⟩), mm_pl0, mm_ds7, rfl⟩
theorem mm_rok7 : ∀ r ∈ mm_rows7, mm_rok r := List.forall_mem_cons.mpr ⟨mm_k112, List.forall_mem_cons.mpr ⟨mm_k113, List.forall_mem_cons.mpr ⟨mm_k114, List.forall_mem_cons.mpr ⟨mm_k115, List.forall_mem_cons.mpr ⟨mm_k116, List.forall_mem_cons.mpr ⟨mm_k117, List.forall_mem_cons.mpr ⟨mm_k118, List.forall_mem_cons.mpr ⟨mm_k119, List.forall_mem_cons.mpr ⟨mm_k120, List.forall_mem_cons.mpr ⟨mm_k121, List.forall_mem_cons.mpr ⟨mm_k122, List.forall_mem_cons.mpr ⟨mm_k123, List.forall_mem_cons.mpr ⟨mm_k124, List.forall_mem_cons.mpr ⟨mm_k125, List.forall_mem_cons.mpr ⟨mm_k126, List.forall_mem_cons.mpr ⟨mm_k127, fun _ h => absurd h List.not_mem_nil⟩⟩⟩⟩⟩⟩⟩⟩⟩⟩⟩⟩⟩⟩⟩⟩
theorem mm_k128 : mm_rok (⟨"GraveRails", "drawn", "(IIII)I"⟩, prog_1_method_28_code, 0, 11, 4, 0, 1) := Or.inr ⟨mm_t5 (i := 90) rfl rfl, mm_t5 (i := 88) rfl rfl, mm_t1 (i := 1) rfl rfl, Or.inr (Or.inr ⟨rfl, mm_t5 (i := 89) rfl rfl⟩), mm_pl0, mm_ds18, rfl⟩
theorem mm_k129 : mm_rok (⟨"GraveRails", "count", "(I)I"⟩, prog_1_method_29_code, 0, 3, 1, 0, 1) := Or.inr ⟨mm_t5 (i := 99) rfl rfl, mm_t5 (i := 97) rfl rfl, mm_t1 (i := 1) rfl rfl, Or.inr (Or.inr ⟨rfl, mm_t5 (i := 98) rfl rfl⟩), mm_pl0, mm_ds7, rfl⟩
theorem mm_k130 : mm_rok (⟨"GraveRails$State", "whoIsHeld", "()I"⟩, prog_8_method_9_code, 7, 3, 0, 0, 1) := Or.inr ⟨mm_t5 (i := 103) rfl rfl, mm_t5 (i := 101) rfl rfl, mm_t1 (i := 9) rfl rfl, Or.inr (Or.inr ⟨rfl, mm_t5 (i := 102) rfl rfl⟩), mm_pl7, mm_ds0, rfl⟩
theorem mm_k131 : mm_rok (⟨"GraveRails$State", "allRounds", "()I"⟩, prog_8_method_10_code, 7, 3, 0, 0, 1) := Or.inr ⟨mm_t5 (i := 107) rfl rfl, mm_t5 (i := 105) rfl rfl, mm_t1 (i := 9) rfl rfl, Or.inr (Or.inr ⟨rfl, mm_t5 (i := 106) rfl rfl⟩), mm_pl7, mm_ds0, rfl⟩
theorem mm_k132 : mm_rok (⟨"GraveRails", "image", "(I)I"⟩, prog_1_method_30_code, 0, 3, 1, 0, 1) := Or.inr ⟨mm_t5 (i := 111) rfl rfl, mm_t5 (i := 109) rfl rfl, mm_t1 (i := 1) rfl rfl, Or.inr (Or.inr ⟨rfl, mm_t5 (i := 110) rfl rfl⟩), mm_pl0, mm_ds7, rfl⟩
theorem mm_k133 : mm_rok (⟨"GraveRails", "imageNumber", "(I)LGraveRails$World;"⟩, prog_1_method_32_code, 0, 2, 1, 0, 6) := Or.inr ⟨mm_t5 (i := 115) rfl rfl, mm_t5 (i := 114) rfl rfl, mm_t1 (i := 1) rfl rfl, Or.inr (Or.inr ⟨rfl, mm_s3 (i := 7) rfl⟩), mm_pl0, mm_ds8, rfl⟩
theorem mm_k134 : mm_rok (⟨"GraveRails$World", "copyFrom", "(LGraveRails$World;)V"⟩, prog_10_method_2_code, 9, 2, 1, 0, 0) := Or.inr ⟨mm_t5 (i := 119) rfl rfl, mm_t5 (i := 117) rfl rfl, mm_t1 (i := 8) rfl rfl, Or.inr (Or.inr ⟨rfl, mm_t5 (i := 118) rfl rfl⟩), mm_pl9, mm_ds33, rfl⟩
theorem mm_k135 : mm_rok (⟨"GraveRails$Sights", "copyFrom", "(LGraveRails$Sights;)V"⟩, prog_7_method_2_code, 6, 2, 1, 0, 0) := Or.inr ⟨mm_t5 (i := 125) rfl rfl, mm_t5 (i := 123) rfl rfl, mm_t1 (i := 10) rfl rfl, Or.inr (Or.inr ⟨rfl, mm_t5 (i := 124) rfl rfl⟩), mm_pl6, mm_ds29, rfl⟩
theorem mm_k136 : mm_rok (⟨"GraveRails", "back", "(I)I"⟩, prog_1_method_31_code, 0, 3, 1, 0, 1) := Or.inr ⟨mm_t5 (i := 130) rfl rfl, mm_t5 (i := 128) rfl rfl, mm_t1 (i := 1) rfl rfl, Or.inr (Or.inr ⟨rfl, mm_t5 (i := 129) rfl rfl⟩), mm_pl0, mm_ds7, rfl⟩
theorem mm_k137 : mm_rok (⟨"GraveRailsModel", "<init>", "()V"⟩, prog_14_method_1_code, 12, 1, 0, 2, 0) := Or.inr ⟨mm_t5 (i := 135) rfl rfl, mm_t5 (i := 134) rfl rfl, mm_t1 (i := 14) rfl rfl, Or.inr (Or.inl ⟨rfl, rfl⟩), mm_pl13, mm_ds4, rfl⟩
theorem mm_k138 : mm_rok (⟨"GraveRailsModel", "feed", "(IIIII)I"⟩, prog_14_method_5_code, 12, 6, 5, 0, 1) := Or.inr ⟨mm_t6 (i := 22) rfl rfl, mm_t6 (i := 20) rfl rfl, mm_t1 (i := 14) rfl rfl, Or.inr (Or.inr ⟨rfl, mm_t6 (i := 21) rfl rfl⟩), mm_pl13, mm_ds19, rfl⟩
theorem mm_k139 : mm_rok (⟨"GraveRailsModel", "four", "(I)V"⟩, prog_14_method_4_code, 12, 3, 1, 0, 0) := Or.inr ⟨mm_t6 (i := 26) rfl rfl, mm_t6 (i := 25) rfl rfl, mm_t1 (i := 14) rfl rfl, Or.inr (Or.inr ⟨rfl, mm_s3 (i := 8) rfl⟩), mm_pl13, mm_ds9, rfl⟩
theorem mm_k140 : mm_rok (⟨"GraveRailsModel", "end", "(I)I"⟩, prog_14_method_6_code, 12, 2, 1, 0, 1) := Or.inr ⟨mm_t6 (i := 30) rfl rfl, mm_t6 (i := 28) rfl rfl, mm_t1 (i := 14) rfl rfl, Or.inr (Or.inr ⟨rfl, mm_t6 (i := 29) rfl rfl⟩), mm_pl13, mm_ds7, rfl⟩
theorem mm_k141 : mm_rok (⟨"GraveRailsModel", "rule", "()I"⟩, prog_14_method_43_code, 12, 1, 0, 0, 1) := Or.inr ⟨mm_t6 (i := 34) rfl rfl, mm_t6 (i := 32) rfl rfl, mm_t1 (i := 14) rfl rfl, Or.inr (Or.inr ⟨rfl, mm_t6 (i := 33) rfl rfl⟩), mm_pl13, mm_ds0, rfl⟩
theorem mm_k142 : mm_rok (⟨"GraveRailsModel", "readsAll", "()Z"⟩, prog_14_method_42_code, 12, 2, 0, 0, 2) := Or.inr ⟨mm_t6 (i := 38) rfl rfl, mm_t6 (i := 37) rfl rfl, mm_t1 (i := 14) rfl rfl, Or.inr (Or.inr ⟨rfl, mm_s3 (i := 9) rfl⟩), mm_pl13, mm_ds5, rfl⟩
theorem mm_k143 : mm_rok (⟨"GraveRailsModel", "clauseHere", "()Z"⟩, prog_14_method_41_code, 12, 3, 0, 0, 2) := Or.inr ⟨mm_t6 (i := 42) rfl rfl, mm_t6 (i := 41) rfl rfl, mm_t1 (i := 14) rfl rfl, Or.inr (Or.inr ⟨rfl, mm_s3 (i := 10) rfl⟩), mm_pl13, mm_ds5, rfl⟩
theorem mm_rok8 : ∀ r ∈ mm_rows8, mm_rok r := List.forall_mem_cons.mpr ⟨mm_k128, List.forall_mem_cons.mpr ⟨mm_k129, List.forall_mem_cons.mpr ⟨mm_k130, List.forall_mem_cons.mpr ⟨mm_k131, List.forall_mem_cons.mpr ⟨mm_k132, List.forall_mem_cons.mpr ⟨mm_k133, List.forall_mem_cons.mpr ⟨mm_k134, List.forall_mem_cons.mpr ⟨mm_k135, List.forall_mem_cons.mpr ⟨mm_k136, List.forall_mem_cons.mpr ⟨mm_k137, List.forall_mem_cons.mpr ⟨mm_k138, List.forall_mem_cons.mpr ⟨mm_k139, List.forall_mem_cons.mpr ⟨mm_k140, List.forall_mem_cons.mpr ⟨mm_k141, List.forall_mem_cons.mpr ⟨mm_k142, List.forall_mem_cons.mpr ⟨mm_k143, fun _ h => absurd h List.not_mem_nil⟩⟩⟩⟩⟩⟩⟩⟩⟩⟩⟩⟩⟩⟩⟩⟩
theorem mm_k144 : mm_rok (⟨"GraveRailsModel", "see", "()I"⟩, prog_14_method_8_code, 12, 1, 0, 0, 1) := Or.inr ⟨mm_t6 (i := 46) rfl rfl, mm_t6 (i := 45) rfl rfl, mm_t1 (i := 14) rfl rfl, Or.inr (Or.inr ⟨rfl, mm_s3 (i := 11) rfl⟩), mm_pl13, mm_ds0, rfl⟩
theorem mm_k145 : mm_rok (⟨"GraveRailsModel", "isYardWord", "()Z"⟩, prog_14_method_40_code, 12, 1, 0, 0, 2) := Or.inr ⟨mm_t6 (i := 50) rfl rfl, mm_t6 (i := 49) rfl rfl, mm_t1 (i := 14) rfl rfl, Or.inr (Or.inr ⟨rfl, mm_s3 (i := 12) rfl⟩), mm_pl13, mm_ds5, rfl⟩
theorem mm_k146 : mm_rok (⟨"GraveRailsModel", "isWord", "(J)Z"⟩, prog_14_method_11_code, 12, 6, 1, 0, 2) := Or.inr ⟨mm_t6 (i := 55) rfl rfl, mm_t6 (i := 54) rfl rfl, mm_t1 (i := 14) rfl rfl, Or.inr (Or.inr ⟨rfl, mm_s3 (i := 13) rfl⟩), mm_pl13, mm_ds26, rfl⟩
theorem mm_k147 : mm_rok (⟨"GraveRailsModel", "isLetter", "(I)Z"⟩, prog_14_method_10_code, 12, 2, 1, 0, 2) := Or.inr ⟨mm_t6 (i := 59) rfl rfl, mm_t6 (i := 58) rfl rfl, mm_t1 (i := 14) rfl rfl, Or.inr (Or.inr ⟨rfl, mm_s3 (i := 14) rfl⟩), mm_pl13, mm_ds10, rfl⟩
theorem mm_k148 : mm_rok (⟨"GraveRailsModel", "fails", "(II)Z"⟩, prog_14_method_7_code, 12, 3, 2, 0, 2) := Or.inr ⟨mm_t6 (i := 69) rfl rfl, mm_t6 (i := 68) rfl rfl, mm_t1 (i := 14) rfl rfl, Or.inr (Or.inr ⟨rfl, mm_s3 (i := 15) rfl⟩), mm_pl13, mm_ds13, rfl⟩
theorem mm_k149 : mm_rok (⟨"GraveRailsModel", "yardLineHere", "(I)Z"⟩, prog_14_method_39_code, 12, 2, 1, 0, 2) := Or.inr ⟨mm_t6 (i := 73) rfl rfl, mm_t6 (i := 72) rfl rfl, mm_t1 (i := 14) rfl rfl, Or.inr (Or.inr ⟨rfl, mm_s4 (i := 0) rfl⟩), mm_pl13, mm_ds10, rfl⟩
theorem mm_k150 : mm_rok (⟨"GraveRailsModel", "isYardHere", "(I)Z"⟩, prog_14_method_31_code, 12, 2, 1, 0, 2) := Or.inr ⟨mm_t6 (i := 77) rfl rfl, mm_t6 (i := 76) rfl rfl, mm_t1 (i := 14) rfl rfl, Or.inr (Or.inr ⟨rfl, mm_s4 (i := 1) rfl⟩), mm_pl13, mm_ds10, rfl⟩
theorem mm_k151 : mm_rok (⟨"GraveRailsModel", "passWord", "()V"⟩, prog_14_method_12_code, 12, 1, 0, 0, 0) := Or.inr ⟨mm_t6 (i := 81) rfl rfl, mm_t6 (i := 80) rfl rfl, mm_t1 (i := 14) rfl rfl, Or.inr (Or.inr ⟨rfl, mm_s4 (i := 2) rfl⟩), mm_pl13, mm_ds4, rfl⟩
theorem mm_k152 : mm_rok (⟨"GraveRailsModel", "cellHere", "(III)Z"⟩, prog_14_method_30_code, 12, 4, 3, 0, 2) := Or.inr ⟨mm_t6 (i := 85) rfl rfl, mm_t6 (i := 84) rfl rfl, mm_t1 (i := 14) rfl rfl, Or.inr (Or.inr ⟨rfl, mm_s4 (i := 3) rfl⟩), mm_pl13, mm_ds17, rfl⟩
theorem mm_k153 : mm_rok (⟨"GraveRailsModel", "numberHere", "(II)Z"⟩, prog_14_method_14_code, 12, 5, 2, 0, 2) := Or.inr ⟨mm_t6 (i := 89) rfl rfl, mm_t6 (i := 88) rfl rfl, mm_t1 (i := 14) rfl rfl, Or.inr (Or.inr ⟨rfl, mm_s4 (i := 4) rfl⟩), mm_pl13, mm_ds13, rfl⟩
theorem mm_k154 : mm_rok (⟨"GraveRailsModel", "isDigit", "(I)Z"⟩, prog_14_method_9_code, 12, 2, 1, 0, 2) := Or.inr ⟨mm_t6 (i := 93) rfl rfl, mm_t6 (i := 92) rfl rfl, mm_t1 (i := 14) rfl rfl, Or.inr (Or.inr ⟨rfl, mm_s4 (i := 5) rfl⟩), mm_pl13, mm_ds10, rfl⟩
theorem mm_k155 : mm_rok (⟨"GraveRailsModel", "in", "(JJJ)Z"⟩, prog_14_method_2_code, 12, 6, 3, 1, 2) := Or.inr ⟨mm_t6 (i := 96) rfl rfl, mm_t6 (i := 95) rfl rfl, mm_t1 (i := 14) rfl rfl, Or.inl rfl, mm_pl13, mm_ds27, rfl⟩
theorem mm_k156 : mm_rok (⟨"GraveRailsModel", "isGraveHere", "(I)Z"⟩, prog_14_method_33_code, 12, 6, 1, 0, 2) := Or.inr ⟨mm_t6 (i := 100) rfl rfl, mm_t6 (i := 99) rfl rfl, mm_t1 (i := 14) rfl rfl, Or.inr (Or.inr ⟨rfl, mm_s4 (i := 6) rfl⟩), mm_pl13, mm_ds10, rfl⟩
theorem mm_k157 : mm_rok (⟨"GraveRailsModel", "kindHere", "()I"⟩, prog_14_method_32_code, 12, 1, 0, 0, 1) := Or.inr ⟨mm_t6 (i := 104) rfl rfl, mm_t6 (i := 103) rfl rfl, mm_t1 (i := 14) rfl rfl, Or.inr (Or.inr ⟨rfl, mm_s4 (i := 7) rfl⟩), mm_pl13, mm_ds0, rfl⟩
theorem mm_k158 : mm_rok (⟨"GraveRailsModel", "takesWord", "(J)Z"⟩, prog_14_method_13_code, 12, 3, 1, 0, 2) := Or.inr ⟨mm_t6 (i := 109) rfl rfl, mm_t6 (i := 108) rfl rfl, mm_t1 (i := 14) rfl rfl, Or.inr (Or.inr ⟨rfl, mm_s4 (i := 8) rfl⟩), mm_pl13, mm_ds26, rfl⟩
theorem mm_k159 : mm_rok (⟨"GraveRailsModel", "isPairHere", "()Z"⟩, prog_14_method_35_code, 12, 3, 0, 0, 2) := Or.inr ⟨mm_t6 (i := 116) rfl rfl, mm_t6 (i := 115) rfl rfl, mm_t1 (i := 14) rfl rfl, Or.inr (Or.inr ⟨rfl, mm_s4 (i := 9) rfl⟩), mm_pl13, mm_ds5, rfl⟩
theorem mm_rok9 : ∀ r ∈ mm_rows9, mm_rok r := List.forall_mem_cons.mpr ⟨mm_k144, List.forall_mem_cons.mpr ⟨mm_k145, List.forall_mem_cons.mpr ⟨mm_k146, List.forall_mem_cons.mpr ⟨mm_k147, List.forall_mem_cons.mpr ⟨mm_k148, List.forall_mem_cons.mpr ⟨mm_k149, List.forall_mem_cons.mpr ⟨mm_k150, List.forall_mem_cons.mpr ⟨mm_k151, List.forall_mem_cons.mpr ⟨mm_k152, List.forall_mem_cons.mpr ⟨mm_k153, List.forall_mem_cons.mpr ⟨mm_k154, List.forall_mem_cons.mpr ⟨mm_k155, List.forall_mem_cons.mpr ⟨mm_k156, List.forall_mem_cons.mpr ⟨mm_k157, List.forall_mem_cons.mpr ⟨mm_k158, List.forall_mem_cons.mpr ⟨mm_k159, fun _ h => absurd h List.not_mem_nil⟩⟩⟩⟩⟩⟩⟩⟩⟩⟩⟩⟩⟩⟩⟩⟩
theorem mm_k160 : mm_rok (⟨"GraveRailsModel", "singleHere", "()Z"⟩, prog_14_method_34_code, 12, 2, 0, 0, 2) := Or.inr ⟨mm_t6 (i := 120) rfl rfl, mm_t6 (i := 119) rfl rfl, mm_t1 (i := 14) rfl rfl, Or.inr (Or.inr ⟨rfl, mm_s4 (i := 10) rfl⟩), mm_pl13, mm_ds5, rfl⟩
theorem mm_k161 : mm_rok (⟨"GraveRailsModel", "isRootHere", "(I)Z"⟩, prog_14_method_36_code, 12, 5, 1, 0, 2) := Or.inr ⟨mm_t6 (i := 124) rfl rfl, mm_t6 (i := 123) rfl rfl, mm_t1 (i := 14) rfl rfl, Or.inr (Or.inr ⟨rfl, mm_s4 (i := 11) rfl⟩), mm_pl13, mm_ds10, rfl⟩
theorem mm_k162 : mm_rok (⟨"GraveRailsModel", "isHeavyHere", "()Z"⟩, prog_14_method_37_code, 12, 1, 0, 0, 2) := Or.inr ⟨mm_t6 (i := 128) rfl rfl, mm_t6 (i := 127) rfl rfl, mm_t1 (i := 14) rfl rfl, Or.inr (Or.inr ⟨rfl, mm_s4 (i := 12) rfl⟩), mm_pl13, mm_ds5, rfl⟩
theorem mm_k163 : mm_rok (⟨"GraveRailsModel", "isFloodHere", "(I)Z"⟩, prog_14_method_38_code, 12, 4, 1, 0, 2) := Or.inr ⟨mm_t6 (i := 132) rfl rfl, mm_t6 (i := 131) rfl rfl, mm_t1 (i := 14) rfl rfl, Or.inr (Or.inr ⟨rfl, mm_s4 (i := 13) rfl⟩), mm_pl13, mm_ds10, rfl⟩
theorem mm_k164 : mm_rok (⟨"GraveRailsModel", "isGoHere", "()Z"⟩, prog_14_method_29_code, 12, 2, 0, 0, 2) := Or.inr ⟨mm_t6 (i := 136) rfl rfl, mm_t6 (i := 135) rfl rfl, mm_t1 (i := 14) rfl rfl, Or.inr (Or.inr ⟨rfl, mm_s4 (i := 14) rfl⟩), mm_pl13, mm_ds5, rfl⟩
theorem mm_k165 : mm_rok (⟨"GraveRailsModel", "sum", "()Z"⟩, prog_14_method_23_code, 12, 2, 0, 0, 2) := Or.inr ⟨mm_t6 (i := 140) rfl rfl, mm_t6 (i := 139) rfl rfl, mm_t1 (i := 14) rfl rfl, Or.inr (Or.inr ⟨rfl, mm_s4 (i := 15) rfl⟩), mm_pl13, mm_ds5, rfl⟩
theorem mm_k166 : mm_rok (⟨"GraveRailsModel", "term", "()Z"⟩, prog_14_method_22_code, 12, 2, 0, 0, 2) := Or.inr ⟨mm_t6 (i := 144) rfl rfl, mm_t6 (i := 143) rfl rfl, mm_t1 (i := 14) rfl rfl, Or.inr (Or.inr ⟨rfl, mm_s5 (i := 0) rfl⟩), mm_pl13, mm_ds5, rfl⟩
theorem mm_k167 : mm_rok (⟨"GraveRailsModel", "value", "()Z"⟩, prog_14_method_21_code, 12, 3, 0, 0, 2) := Or.inr ⟨mm_t6 (i := 148) rfl rfl, mm_t6 (i := 147) rfl rfl, mm_t1 (i := 14) rfl rfl, Or.inr (Or.inr ⟨rfl, mm_s5 (i := 1) rfl⟩), mm_pl13, mm_ds5, rfl⟩
theorem mm_k168 : mm_rok (⟨"GraveRailsModel", "makes", "(I)Z"⟩, prog_14_method_17_code, 12, 2, 1, 0, 2) := Or.inr ⟨mm_t6 (i := 153) rfl rfl, mm_t6 (i := 152) rfl rfl, mm_t1 (i := 14) rfl rfl, Or.inr (Or.inr ⟨rfl, mm_s5 (i := 2) rfl⟩), mm_pl13, mm_ds10, rfl⟩
theorem mm_k169 : mm_rok (⟨"GraveRailsModel", "puts", "(II)V"⟩, prog_14_method_16_code, 12, 3, 2, 0, 0) := Or.inr ⟨mm_t6 (i := 157) rfl rfl, mm_t6 (i := 156) rfl rfl, mm_t1 (i := 14) rfl rfl, Or.inr (Or.inr ⟨rfl, mm_s5 (i := 3) rfl⟩), mm_pl13, mm_ds12, rfl⟩
theorem mm_k170 : mm_rok (⟨"GraveRailsModel", "wordHere", "()I"⟩, prog_14_method_15_code, 12, 1, 0, 0, 1) := Or.inr ⟨mm_t6 (i := 161) rfl rfl, mm_t6 (i := 160) rfl rfl, mm_t1 (i := 14) rfl rfl, Or.inr (Or.inr ⟨rfl, mm_s5 (i := 4) rfl⟩), mm_pl13, mm_ds0, rfl⟩
theorem mm_k171 : mm_rok (⟨"GraveRailsModel", "tested", "()Z"⟩, prog_14_method_28_code, 12, 3, 0, 0, 2) := Or.inr ⟨mm_t6 (i := 173) rfl rfl, mm_t6 (i := 172) rfl rfl, mm_t1 (i := 14) rfl rfl, Or.inr (Or.inr ⟨rfl, mm_s5 (i := 5) rfl⟩), mm_pl13, mm_ds5, rfl⟩
theorem mm_k172 : mm_rok (⟨"GraveRailsModel", "fact", "()Z"⟩, prog_14_method_25_code, 12, 3, 0, 0, 2) := Or.inr ⟨mm_t6 (i := 177) rfl rfl, mm_t6 (i := 176) rfl rfl, mm_t1 (i := 14) rfl rfl, Or.inr (Or.inr ⟨rfl, mm_s5 (i := 6) rfl⟩), mm_pl13, mm_ds5, rfl⟩
theorem mm_k173 : mm_rok (⟨"GraveRailsModel", "opens", "(I)Z"⟩, prog_14_method_18_code, 12, 2, 1, 0, 2) := Or.inr ⟨mm_t6 (i := 182) rfl rfl, mm_t6 (i := 181) rfl rfl, mm_t1 (i := 14) rfl rfl, Or.inr (Or.inr ⟨rfl, mm_s5 (i := 7) rfl⟩), mm_pl13, mm_ds10, rfl⟩
theorem mm_k174 : mm_rok (⟨"GraveRailsModel", "compare", "()Z"⟩, prog_14_method_24_code, 12, 5, 0, 0, 2) := Or.inr ⟨mm_t6 (i := 186) rfl rfl, mm_t6 (i := 185) rfl rfl, mm_t1 (i := 14) rfl rfl, Or.inr (Or.inr ⟨rfl, mm_s5 (i := 8) rfl⟩), mm_pl13, mm_ds5, rfl⟩
theorem mm_k175 : mm_rok (⟨"GraveRailsModel", "closes", "()V"⟩, prog_14_method_27_code, 12, 1, 0, 0, 0) := Or.inr ⟨mm_t6 (i := 190) rfl rfl, mm_t6 (i := 189) rfl rfl, mm_t1 (i := 14) rfl rfl, Or.inr (Or.inr ⟨rfl, mm_s5 (i := 9) rfl⟩), mm_pl13, mm_ds4, rfl⟩
theorem mm_rok10 : ∀ r ∈ mm_rows10, mm_rok r := List.forall_mem_cons.mpr ⟨mm_k160, List.forall_mem_cons.mpr ⟨mm_k161, List.forall_mem_cons.mpr ⟨mm_k162, List.forall_mem_cons.mpr ⟨mm_k163, List.forall_mem_cons.mpr ⟨mm_k164, List.forall_mem_cons.mpr ⟨mm_k165, List.forall_mem_cons.mpr ⟨mm_k166, List.forall_mem_cons.mpr ⟨mm_k167, List.forall_mem_cons.mpr ⟨mm_k168, List.forall_mem_cons.mpr ⟨mm_k169, List.forall_mem_cons.mpr ⟨mm_k170, List.forall_mem_cons.mpr ⟨mm_k171, List.forall_mem_cons.mpr ⟨mm_k172, List.forall_mem_cons.mpr ⟨mm_k173, List.forall_mem_cons.mpr ⟨mm_k174, List.forall_mem_cons.mpr ⟨mm_k175, fun _ h => absurd h List.not_mem_nil⟩⟩⟩⟩⟩⟩⟩⟩⟩⟩⟩⟩⟩⟩⟩⟩
theorem mm_k176 : mm_rok (⟨"GraveRailsModel", "settles", "(I)V"⟩, prog_14_method_20_code, 12, 2, 1, 0, 0) := Or.inr ⟨mm_t6 (i := 194) rfl rfl, mm_t6 (i := 193) rfl rfl, mm_t1 (i := 14) rfl rfl, Or.inr (Or.inr ⟨rfl, mm_s5 (i := 10) rfl⟩), mm_pl13, mm_ds9, rfl⟩
theorem mm_k177 : mm_rok (⟨"GraveRailsModel", "strength", "(I)I"⟩, prog_14_method_19_code, 12, 1, 1, 1, 1) := Or.inr ⟨mm_t6 (i := 197) rfl rfl, mm_t6 (i := 196) rfl rfl, mm_t1 (i := 14) rfl rfl, Or.inl rfl, mm_pl13, mm_ds7, rfl⟩
theorem mm_k178 : mm_rok (⟨"GraveRailsModel", "isInside", "()Z"⟩, prog_14_method_26_code, 12, 2, 0, 0, 2) := Or.inr ⟨mm_t6 (i := 201) rfl rfl, mm_t6 (i := 200) rfl rfl, mm_t1 (i := 14) rfl rfl, Or.inr (Or.inr ⟨rfl, mm_s5 (i := 11) rfl⟩), mm_pl13, mm_ds5, rfl⟩
theorem mm_k179 : mm_rok (⟨"GraveRailsModel", "yard", "()I"⟩, prog_14_method_44_code, 12, 2, 0, 0, 1) := Or.inr ⟨mm_t6 (i := 207) rfl rfl, mm_t6 (i := 205) rfl rfl, mm_t1 (i := 14) rfl rfl, Or.inr (Or.inr ⟨rfl, mm_t6 (i := 206) rfl rfl⟩), mm_pl13, mm_ds0, rfl⟩
theorem mm_k180 : mm_rok (⟨"GraveRailsModel", "graveOf", "(II)I"⟩, prog_14_method_52_code, 12, 3, 2, 0, 1) := Or.inr ⟨mm_t6 (i := 211) rfl rfl, mm_t6 (i := 210) rfl rfl, mm_t1 (i := 14) rfl rfl, Or.inr (Or.inr ⟨rfl, mm_s5 (i := 12) rfl⟩), mm_pl13, mm_ds11, rfl⟩
theorem mm_k181 : mm_rok (⟨"GraveRailsModel", "force", "(I)I"⟩, prog_14_method_57_code, 12, 3, 1, 0, 1) := Or.inr ⟨mm_t6 (i := 215) rfl rfl, mm_t6 (i := 213) rfl rfl, mm_t1 (i := 14) rfl rfl, Or.inr (Or.inr ⟨rfl, mm_t6 (i := 214) rfl rfl⟩), mm_pl13, mm_ds7, rfl⟩
theorem mm_k182 : mm_rok (⟨"GraveRailsModel", "isRule", "(I)Z"⟩, prog_14_method_45_code, 12, 2, 1, 0, 2) := Or.inr ⟨mm_t6 (i := 219) rfl rfl, mm_t6 (i := 218) rfl rfl, mm_t1 (i := 14) rfl rfl, Or.inr (Or.inr ⟨rfl, mm_s5 (i := 13) rfl⟩), mm_pl13, mm_ds10, rfl⟩
theorem mm_k183 : mm_rok (⟨"GraveRailsModel", "grave", "(II)I"⟩, prog_14_method_58_code, 12, 3, 2, 0, 1) := Or.inr ⟨mm_t6 (i := 223) rfl rfl, mm_t6 (i := 221) rfl rfl, mm_t1 (i := 14) rfl rfl, Or.inr (Or.inr ⟨rfl, mm_t6 (i := 222) rfl rfl⟩), mm_pl13, mm_ds11, rfl⟩
theorem mm_k184 : mm_rok (⟨"GraveRailsModel", "isGrave", "(I)Z"⟩, prog_14_method_51_code, 12, 2, 1, 0, 2) := Or.inr ⟨mm_t6 (i := 227) rfl rfl, mm_t6 (i := 226) rfl rfl, mm_t1 (i := 14) rfl rfl, Or.inr (Or.inr ⟨rfl, mm_s5 (i := 14) rfl⟩), mm_pl13, mm_ds10, rfl⟩
theorem mm_k185 : mm_rok (⟨"GraveRailsModel", "stone", "(II)I"⟩, prog_14_method_59_code, 12, 5, 2, 0, 1) := Or.inr ⟨mm_t6 (i := 232) rfl rfl, mm_t6 (i := 230) rfl rfl, mm_t1 (i := 14) rfl rfl, Or.inr (Or.inr ⟨rfl, mm_t6 (i := 231) rfl rfl⟩), mm_pl13, mm_ds11, rfl⟩
theorem mm_k186 : mm_rok (⟨"GraveRailsModel", "graveAt", "(II)I"⟩, prog_14_method_55_code, 12, 4, 2, 0, 1) := Or.inr ⟨mm_t6 (i := 237) rfl rfl, mm_t6 (i := 236) rfl rfl, mm_t1 (i := 14) rfl rfl, Or.inr (Or.inr ⟨rfl, mm_s5 (i := 15) rfl⟩), mm_pl13, mm_ds11, rfl⟩
theorem mm_k187 : mm_rok (⟨"GraveRailsModel", "at", "(II)I"⟩, prog_14_method_60_code, 12, 3, 2, 0, 1) := Or.inr ⟨mm_t7 (i := 1) rfl rfl, mm_t6 (i := 239) rfl rfl, mm_t1 (i := 14) rfl rfl, Or.inr (Or.inr ⟨rfl, mm_t7 (i := 0) rfl rfl⟩), mm_pl13, mm_ds11, rfl⟩
theorem mm_k188 : mm_rok (⟨"GraveRailsModel", "isPlace", "(II)Z"⟩, prog_14_method_54_code, 12, 3, 2, 0, 2) := Or.inr ⟨mm_t7 (i := 5) rfl rfl, mm_t7 (i := 4) rfl rfl, mm_t1 (i := 14) rfl rfl, Or.inr (Or.inr ⟨rfl, mm_s6 (i := 0) rfl⟩), mm_pl13, mm_ds13, rfl⟩
theorem mm_k189 : mm_rok (⟨"GraveRailsModel", "root", "(II)I"⟩, prog_14_method_61_code, 12, 3, 2, 0, 1) := Or.inr ⟨mm_t7 (i := 9) rfl rfl, mm_t7 (i := 7) rfl rfl, mm_t1 (i := 14) rfl rfl, Or.inr (Or.inr ⟨rfl, mm_t7 (i := 8) rfl rfl⟩), mm_pl13, mm_ds11, rfl⟩
theorem mm_k190 : mm_rok (⟨"GraveRailsModel", "rootAt", "(II)I"⟩, prog_14_method_56_code, 12, 4, 2, 0, 1) := Or.inr ⟨mm_t7 (i := 13) rfl rfl, mm_t7 (i := 12) rfl rfl, mm_t1 (i := 14) rfl rfl, Or.inr (Or.inr ⟨rfl, mm_s6 (i := 1) rfl⟩), mm_pl13, mm_ds11, rfl⟩
theorem mm_k191 : mm_rok (⟨"GraveRailsModel", "undo", "()I"⟩, prog_14_method_76_code, 12, 2, 0, 0, 1) := Or.inr ⟨mm_t7 (i := 17) rfl rfl, mm_t7 (i := 15) rfl rfl, mm_t1 (i := 14) rfl rfl, Or.inr (Or.inr ⟨rfl, mm_t7 (i := 16) rfl rfl⟩), mm_pl13, mm_ds0, rfl⟩
theorem mm_rok11 : ∀ r ∈ mm_rows11, mm_rok r := List.forall_mem_cons.mpr ⟨mm_k176, List.forall_mem_cons.mpr ⟨mm_k177, List.forall_mem_cons.mpr ⟨mm_k178, List.forall_mem_cons.mpr ⟨mm_k179, List.forall_mem_cons.mpr ⟨mm_k180, List.forall_mem_cons.mpr ⟨mm_k181, List.forall_mem_cons.mpr ⟨mm_k182, List.forall_mem_cons.mpr ⟨mm_k183, List.forall_mem_cons.mpr ⟨mm_k184, List.forall_mem_cons.mpr ⟨mm_k185, List.forall_mem_cons.mpr ⟨mm_k186, List.forall_mem_cons.mpr ⟨mm_k187, List.forall_mem_cons.mpr ⟨mm_k188, List.forall_mem_cons.mpr ⟨mm_k189, List.forall_mem_cons.mpr ⟨mm_k190, List.forall_mem_cons.mpr ⟨mm_k191, fun _ h => absurd h List.not_mem_nil⟩⟩⟩⟩⟩⟩⟩⟩⟩⟩⟩⟩⟩⟩⟩⟩
theorem mm_k192 : mm_rok (⟨"GraveRailsModel", "year", "()I"⟩, prog_14_method_77_code, 12, 1, 0, 0, 1) := Or.inr ⟨mm_t7 (i := 21) rfl rfl, mm_t7 (i := 19) rfl rfl, mm_t1 (i := 14) rfl rfl, Or.inr (Or.inr ⟨rfl, mm_t7 (i := 20) rfl rfl⟩), mm_pl13, mm_ds0, rfl⟩
theorem mm_k193 : mm_rok (⟨"GraveRailsModel", "isYard", "()Z"⟩, prog_14_method_50_code, 12, 1, 0, 0, 2) := Or.inr ⟨mm_t7 (i := 25) rfl rfl, mm_t7 (i := 24) rfl rfl, mm_t1 (i := 14) rfl rfl, Or.inr (Or.inr ⟨rfl, mm_s6 (i := 2) rfl⟩), mm_pl13, mm_ds5, rfl⟩
theorem mm_k194 : mm_rok (⟨"GraveRailsModel", "keepsAct", "()V"⟩, prog_14_method_75_code, 12, 2, 0, 0, 0) := Or.inr ⟨mm_t7 (i := 29) rfl rfl, mm_t7 (i := 28) rfl rfl, mm_t1 (i := 14) rfl rfl, Or.inr (Or.inr ⟨rfl, mm_s6 (i := 3) rfl⟩), mm_pl13, mm_ds4, rfl⟩
theorem mm_k195 : mm_rok (⟨"GraveRailsModel", "passes", "()I"⟩, prog_14_method_74_code, 12, 2, 0, 0, 1) := Or.inr ⟨mm_t7 (i := 33) rfl rfl, mm_t7 (i := 32) rfl rfl, mm_t1 (i := 14) rfl rfl, Or.inr (Or.inr ⟨rfl, mm_s6 (i := 4) rfl⟩), mm_pl13, mm_ds0, rfl⟩
theorem mm_k196 : mm_rok (⟨"GraveRailsModel", "isFlood", "()Z"⟩, prog_14_method_62_code, 12, 3, 0, 0, 2) := Or.inr ⟨mm_t7 (i := 37) rfl rfl, mm_t7 (i := 36) rfl rfl, mm_t1 (i := 14) rfl rfl, Or.inr (Or.inr ⟨rfl, mm_s6 (i := 5) rfl⟩), mm_pl13, mm_ds5, rfl⟩
theorem mm_k197 : mm_rok (⟨"GraveRailsModel", "sorts", "(I)V"⟩, prog_14_method_72_code, 12, 5, 1, 0, 0) := Or.inr ⟨mm_t7 (i := 41) rfl rfl, mm_t7 (i := 40) rfl rfl, mm_t1 (i := 14) rfl rfl, Or.inr (Or.inr ⟨rfl, mm_s6 (i := 6) rfl⟩), mm_pl13, mm_ds9, rfl⟩
theorem mm_k198 : mm_rok (⟨"GraveRailsModel", "falls", "(I)V"⟩, prog_14_method_63_code, 12, 3, 1, 0, 0) := Or.inr ⟨mm_t7 (i := 45) rfl rfl, mm_t7 (i := 44) rfl rfl, mm_t1 (i := 14) rfl rfl, Or.inr (Or.inr ⟨rfl, mm_s6 (i := 7) rfl⟩), mm_pl13, mm_ds9, rfl⟩
theorem mm_k199 : mm_rok (⟨"GraveRailsModel", "turns", "(I)V"⟩, prog_14_method_71_code, 12, 5, 1, 0, 0) := Or.inr ⟨mm_t7 (i := 49) rfl rfl, mm_t7 (i := 48) rfl rfl, mm_t1 (i := 14) rfl rfl, Or.inr (Or.inr ⟨rfl, mm_s6 (i := 8) rfl⟩), mm_pl13, mm_ds9, rfl⟩
theorem mm_k200 : mm_rok (⟨"GraveRailsModel", "isNearer", "(I)Z"⟩, prog_14_method_70_code, 12, 3, 1, 0, 2) := Or.inr ⟨mm_t7 (i := 53) rfl rfl, mm_t7 (i := 52) rfl rfl, mm_t1 (i := 14) rfl rfl, Or.inr (Or.inr ⟨rfl, mm_s6 (i := 9) rfl⟩), mm_pl13, mm_ds10, rfl⟩
theorem mm_k201 : mm_rok (⟨"GraveRailsModel", "isFallen", "(I)Z"⟩, prog_14_method_53_code, 12, 2, 1, 0, 2) := Or.inr ⟨mm_t7 (i := 57) rfl rfl, mm_t7 (i := 56) rfl rfl, mm_t1 (i := 14) rfl rfl, Or.inr (Or.inr ⟨rfl, mm_s6 (i := 10) rfl⟩), mm_pl13, mm_ds10, rfl⟩
theorem mm_k202 : mm_rok (⟨"GraveRailsModel", "stepsOf", "(I)I"⟩, prog_14_method_66_code, 12, 8, 1, 0, 1) := Or.inr ⟨mm_t7 (i := 61) rfl rfl, mm_t7 (i := 60) rfl rfl, mm_t1 (i := 14) rfl rfl, Or.inr (Or.inr ⟨rfl, mm_s6 (i := 11) rfl⟩), mm_pl13, mm_ds7, rfl⟩
theorem mm_k203 : mm_rok (⟨"GraveRailsModel", "behindOf", "(I)I"⟩, prog_14_method_65_code, 12, 4, 1, 0, 1) := Or.inr ⟨mm_t7 (i := 65) rfl rfl, mm_t7 (i := 64) rfl rfl, mm_t1 (i := 14) rfl rfl, Or.inr (Or.inr ⟨rfl, mm_s6 (i := 12) rfl⟩), mm_pl13, mm_ds7, rfl⟩
theorem mm_k204 : mm_rok (⟨"GraveRailsModel", "fallenMany", "()I"⟩, prog_14_method_64_code, 12, 3, 0, 0, 1) := Or.inr ⟨mm_t7 (i := 69) rfl rfl, mm_t7 (i := 68) rfl rfl, mm_t1 (i := 14) rfl rfl, Or.inr (Or.inr ⟨rfl, mm_s6 (i := 13) rfl⟩), mm_pl13, mm_ds0, rfl⟩
theorem mm_k205 : mm_rok (⟨"GraveRailsModel", "reckons", "(III)J"⟩, prog_14_method_49_code, 12, 11, 3, 0, 3) := Or.inr ⟨mm_t7 (i := 73) rfl rfl, mm_t7 (i := 72) rfl rfl, mm_t1 (i := 14) rfl rfl, Or.inr (Or.inr ⟨rfl, mm_s6 (i := 14) rfl⟩), mm_pl13, mm_ds15, rfl⟩
theorem mm_k206 : mm_rok (⟨"GraveRailsModel", "push", "(J)V"⟩, prog_14_method_46_code, 12, 3, 1, 0, 0) := Or.inr ⟨mm_t7 (i := 77) rfl rfl, mm_t7 (i := 76) rfl rfl, mm_t1 (i := 14) rfl rfl, Or.inr (Or.inr ⟨rfl, mm_s6 (i := 15) rfl⟩), mm_pl13, mm_ds25, rfl⟩
theorem mm_k207 : mm_rok (⟨"GraveRailsModel", "pop", "()J"⟩, prog_14_method_47_code, 12, 1, 0, 0, 3) := Or.inr ⟨mm_t7 (i := 81) rfl rfl, mm_t7 (i := 80) rfl rfl, mm_t1 (i := 14) rfl rfl, Or.inr (Or.inr ⟨rfl, mm_s7 (i := 0) rfl⟩), mm_pl13, mm_ds1, rfl⟩
theorem mm_rok12 : ∀ r ∈ mm_rows12, mm_rok r := List.forall_mem_cons.mpr ⟨mm_k192, List.forall_mem_cons.mpr ⟨mm_k193, List.forall_mem_cons.mpr ⟨mm_k194, List.forall_mem_cons.mpr ⟨mm_k195, List.forall_mem_cons.mpr ⟨mm_k196, List.forall_mem_cons.mpr ⟨mm_k197, List.forall_mem_cons.mpr ⟨mm_k198, List.forall_mem_cons.mpr ⟨mm_k199, List.forall_mem_cons.mpr ⟨mm_k200, List.forall_mem_cons.mpr ⟨mm_k201, List.forall_mem_cons.mpr ⟨mm_k202, List.forall_mem_cons.mpr ⟨mm_k203, List.forall_mem_cons.mpr ⟨mm_k204, List.forall_mem_cons.mpr ⟨mm_k205, List.forall_mem_cons.mpr ⟨mm_k206, List.forall_mem_cons.mpr ⟨mm_k207, fun _ h => absurd h List.not_mem_nil⟩⟩⟩⟩⟩⟩⟩⟩⟩⟩⟩⟩⟩⟩⟩⟩
theorem mm_k208 : mm_rok (⟨"GraveRailsModel", "one", "(IJJ)J"⟩, prog_14_method_48_code, 12, 5, 3, 1, 3) := Or.inr ⟨mm_t7 (i := 84) rfl rfl, mm_t7 (i := 83) rfl rfl, mm_t1 (i := 14) rfl rfl, Or.inl rfl, mm_pl13, mm_ds21, rfl⟩
theorem mm_k209 : mm_rok (⟨"GraveRailsModel", "steps", "(I)Z"⟩, prog_14_method_69_code, 12, 6, 1, 0, 2) := Or.inr ⟨mm_t7 (i := 89) rfl rfl, mm_t7 (i := 88) rfl rfl, mm_t1 (i := 14) rfl rfl, Or.inr (Or.inr ⟨rfl, mm_s7 (i := 1) rfl⟩), mm_pl13, mm_ds10, rfl⟩
theorem mm_k210 : mm_rok (⟨"GraveRailsModel", "comesInto", "(III)Z"⟩, prog_14_method_67_code, 12, 5, 3, 0, 2) := Or.inr ⟨mm_t7 (i := 93) rfl rfl, mm_t7 (i := 92) rfl rfl, mm_t1 (i := 14) rfl rfl, Or.inr (Or.inr ⟨rfl, mm_s7 (i := 2) rfl⟩), mm_pl13, mm_ds17, rfl⟩
theorem mm_k211 : mm_rok (⟨"GraveRailsModel", "isFree", "(II)Z"⟩, prog_14_method_68_code, 12, 3, 2, 0, 2) := Or.inr ⟨mm_t7 (i := 97) rfl rfl, mm_t7 (i := 96) rfl rfl, mm_t1 (i := 14) rfl rfl, Or.inr (Or.inr ⟨rfl, mm_s7 (i := 3) rfl⟩), mm_pl13, mm_ds13, rfl⟩
theorem mm_k212 : mm_rok (⟨"GraveRailsModel", "stonesGo", "()V"⟩, prog_14_method_73_code, 12, 4, 0, 0, 0) := Or.inr ⟨mm_t7 (i := 101) rfl rfl, mm_t7 (i := 100) rfl rfl, mm_t1 (i := 14) rfl rfl, Or.inr (Or.inr ⟨rfl, mm_s7 (i := 4) rfl⟩), mm_pl13, mm_ds4, rfl⟩
theorem mm_k213 : mm_rok (⟨"GraveRailsModel", "dig", "(III)I"⟩, prog_14_method_79_code, 12, 4, 3, 0, 1) := Or.inr ⟨mm_t7 (i := 105) rfl rfl, mm_t7 (i := 103) rfl rfl, mm_t1 (i := 14) rfl rfl, Or.inr (Or.inr ⟨rfl, mm_t7 (i := 104) rfl rfl⟩), mm_pl13, mm_ds14, rfl⟩
theorem mm_k214 : mm_rok (⟨"GraveRailsModel", "digs", "(III)V"⟩, prog_14_method_78_code, 12, 7, 3, 0, 0) := Or.inr ⟨mm_t7 (i := 109) rfl rfl, mm_t7 (i := 108) rfl rfl, mm_t1 (i := 14) rfl rfl, Or.inr (Or.inr ⟨rfl, mm_s7 (i := 5) rfl⟩), mm_pl13, mm_ds16, rfl⟩
theorem mm_k215 : mm_rok (⟨"GraveRailsModel", "pay", "(I)Z"⟩, prog_14_method_80_code, 12, 2, 1, 0, 2) := Or.inr ⟨mm_t7 (i := 113) rfl rfl, mm_t7 (i := 111) rfl rfl, mm_t1 (i := 14) rfl rfl, Or.inr (Or.inr ⟨rfl, mm_t7 (i := 112) rfl rfl⟩), mm_pl13, mm_ds10, rfl⟩
theorem mm_k216 : mm_rok (⟨"GraveRailsModel", "frost", "(I)I"⟩, prog_14_method_82_code, 12, 2, 1, 0, 1) := Or.inr ⟨mm_t7 (i := 117) rfl rfl, mm_t7 (i := 115) rfl rfl, mm_t1 (i := 14) rfl rfl, Or.inr (Or.inr ⟨rfl, mm_t7 (i := 116) rfl rfl⟩), mm_pl13, mm_ds7, rfl⟩
theorem mm_k217 : mm_rok (⟨"GraveRailsModel", "freezes", "(IZ)I"⟩, prog_14_method_81_code, 12, 8, 2, 0, 1) := Or.inr ⟨mm_t7 (i := 121) rfl rfl, mm_t7 (i := 120) rfl rfl, mm_t1 (i := 14) rfl rfl, Or.inr (Or.inr ⟨rfl, mm_s7 (i := 6) rfl⟩), mm_pl13, mm_ds24, rfl⟩
theorem mm_k218 : mm_rok (⟨"GraveRailsModel", "ahead", "(III)I"⟩, prog_14_method_85_code, 12, 5, 3, 0, 1) := Or.inr ⟨mm_t7 (i := 125) rfl rfl, mm_t7 (i := 123) rfl rfl, mm_t1 (i := 14) rfl rfl, Or.inr (Or.inr ⟨rfl, mm_t7 (i := 124) rfl rfl⟩), mm_pl13, mm_ds14, rfl⟩
theorem mm_k219 : mm_rok (⟨"GraveRailsModel", "keeps", "()V"⟩, prog_14_method_83_code, 12, 2, 0, 0, 0) := Or.inr ⟨mm_t7 (i := 130) rfl rfl, mm_t7 (i := 129) rfl rfl, mm_t1 (i := 14) rfl rfl, Or.inr (Or.inr ⟨rfl, mm_s7 (i := 7) rfl⟩), mm_pl13, mm_ds4, rfl⟩
theorem mm_k220 : mm_rok (⟨"GraveRailsModel", "laysBack", "()V"⟩, prog_14_method_84_code, 12, 2, 0, 0, 0) := Or.inr ⟨mm_t7 (i := 134) rfl rfl, mm_t7 (i := 133) rfl rfl, mm_t1 (i := 14) rfl rfl, Or.inr (Or.inr ⟨rfl, mm_s7 (i := 8) rfl⟩), mm_pl13, mm_ds4, rfl⟩
theorem mm_k221 : mm_rok (⟨"GraveRailsModel", "fall", "(I)I"⟩, prog_14_method_87_code, 12, 3, 1, 0, 1) := Or.inr ⟨mm_t7 (i := 138) rfl rfl, mm_t7 (i := 136) rfl rfl, mm_t1 (i := 14) rfl rfl, Or.inr (Or.inr ⟨rfl, mm_t7 (i := 137) rfl rfl⟩), mm_pl13, mm_ds7, rfl⟩
theorem mm_k222 : mm_rok (⟨"GraveRailsModel", "fallOf", "(I)I"⟩, prog_14_method_86_code, 12, 3, 1, 0, 1) := Or.inr ⟨mm_t7 (i := 142) rfl rfl, mm_t7 (i := 141) rfl rfl, mm_t1 (i := 14) rfl rfl, Or.inr (Or.inr ⟨rfl, mm_s7 (i := 9) rfl⟩), mm_pl13, mm_ds7, rfl⟩
theorem mm_k223 : mm_rok (⟨"GraveRailsModel", "abreast", "(II)I"⟩, prog_14_method_89_code, 12, 5, 2, 0, 1) := Or.inr ⟨mm_t7 (i := 146) rfl rfl, mm_t7 (i := 144) rfl rfl, mm_t1 (i := 14) rfl rfl, Or.inr (Or.inr ⟨rfl, mm_t7 (i := 145) rfl rfl⟩), mm_pl13, mm_ds11, rfl⟩
theorem mm_rok13 : ∀ r ∈ mm_rows13, mm_rok r := List.forall_mem_cons.mpr ⟨mm_k208, List.forall_mem_cons.mpr ⟨mm_k209, List.forall_mem_cons.mpr ⟨mm_k210, List.forall_mem_cons.mpr ⟨mm_k211, List.forall_mem_cons.mpr ⟨mm_k212, List.forall_mem_cons.mpr ⟨mm_k213, List.forall_mem_cons.mpr ⟨mm_k214, List.forall_mem_cons.mpr ⟨mm_k215, List.forall_mem_cons.mpr ⟨mm_k216, List.forall_mem_cons.mpr ⟨mm_k217, List.forall_mem_cons.mpr ⟨mm_k218, List.forall_mem_cons.mpr ⟨mm_k219, List.forall_mem_cons.mpr ⟨mm_k220, List.forall_mem_cons.mpr ⟨mm_k221, List.forall_mem_cons.mpr ⟨mm_k222, List.forall_mem_cons.mpr ⟨mm_k223, fun _ h => absurd h List.not_mem_nil⟩⟩⟩⟩⟩⟩⟩⟩⟩⟩⟩⟩⟩⟩⟩⟩
theorem mm_k224 : mm_rok (⟨"GraveRailsModel", "areAbreast", "(II)Z"⟩, prog_14_method_88_code, 12, 3, 2, 0, 2) := Or.inr ⟨mm_t7 (i := 150) rfl rfl, mm_t7 (i := 149) rfl rfl, mm_t1 (i := 14) rfl rfl, Or.inr (Or.inr ⟨rfl, mm_s7 (i := 10) rfl⟩), mm_pl13, mm_ds13, rfl⟩
theorem mm_k225 : mm_rok (⟨"GraveRailsModel", "begin", "(II)I"⟩, prog_14_method_91_code, 12, 8, 2, 0, 1) := Or.inr ⟨mm_t7 (i := 154) rfl rfl, mm_t7 (i := 152) rfl rfl, mm_t1 (i := 14) rfl rfl, Or.inr (Or.inr ⟨rfl, mm_t7 (i := 153) rfl rfl⟩), mm_pl13, mm_ds11, rfl⟩
theorem mm_k226 : mm_rok (⟨"GraveRailsModel", "fallTogether", "(III)Z"⟩, prog_14_method_90_code, 12, 7, 3, 0, 2) := Or.inr ⟨mm_t7 (i := 159) rfl rfl, mm_t7 (i := 158) rfl rfl, mm_t1 (i := 14) rfl rfl, Or.inr (Or.inr ⟨rfl, mm_s7 (i := 11) rfl⟩), mm_pl13, mm_ds17, rfl⟩
theorem mm_k227 : mm_rok (⟨"GraveRailsModel", "dug", "(IIII)I"⟩, prog_14_method_92_code, 12, 10, 4, 0, 1) := Or.inr ⟨mm_t7 (i := 163) rfl rfl, mm_t7 (i := 161) rfl rfl, mm_t1 (i := 14) rfl rfl, Or.inr (Or.inr ⟨rfl, mm_t7 (i := 162) rfl rfl⟩), mm_pl13, mm_ds18, rfl⟩
theorem mm_k228 : mm_rok (⟨"GraveRailsModel", "sight", "(III)I"⟩, prog_14_method_93_code, 12, 5, 3, 0, 1) := Or.inr ⟨mm_t7 (i := 167) rfl rfl, mm_t7 (i := 165) rfl rfl, mm_t1 (i := 14) rfl rfl, Or.inr (Or.inr ⟨rfl, mm_t7 (i := 166) rfl rfl⟩), mm_pl13, mm_ds14, rfl⟩
theorem mm_k229 : mm_rok (⟨"GraveRailsModel", "unpaid", "(I)I"⟩, prog_14_method_100_code, 12, 5, 1, 0, 1) := Or.inr ⟨mm_t7 (i := 172) rfl rfl, mm_t7 (i := 170) rfl rfl, mm_t1 (i := 14) rfl rfl, Or.inr (Or.inr ⟨rfl, mm_t7 (i := 171) rfl rfl⟩), mm_pl13, mm_ds7, rfl⟩
theorem mm_k230 : mm_rok (⟨"GraveRailsModel", "gathersFit", "()V"⟩, prog_14_method_99_code, 12, 3, 0, 0, 0) := Or.inr ⟨mm_t7 (i := 176) rfl rfl, mm_t7 (i := 175) rfl rfl, mm_t1 (i := 14) rfl rfl, Or.inr (Or.inr ⟨rfl, mm_s7 (i := 12) rfl⟩), mm_pl13, mm_ds4, rfl⟩
theorem mm_k231 : mm_rok (⟨"GraveRailsModel", "inQuestion", "()I"⟩, prog_14_method_94_code, 12, 3, 0, 0, 1) := Or.inr ⟨mm_t7 (i := 180) rfl rfl, mm_t7 (i := 179) rfl rfl, mm_t1 (i := 14) rfl rfl, Or.inr (Or.inr ⟨rfl, mm_s7 (i := 13) rfl⟩), mm_pl13, mm_ds0, rfl⟩
theorem mm_k232 : mm_rok (⟨"GraveRailsModel", "fitsSights", "(I)Z"⟩, prog_14_method_98_code, 12, 4, 1, 0, 2) := Or.inr ⟨mm_t7 (i := 184) rfl rfl, mm_t7 (i := 183) rfl rfl, mm_t1 (i := 14) rfl rfl, Or.inr (Or.inr ⟨rfl, mm_s7 (i := 14) rfl⟩), mm_pl13, mm_ds10, rfl⟩
theorem mm_k233 : mm_rok (⟨"GraveRailsModel", "beginsBy", "(I)V"⟩, prog_14_method_95_code, 12, 4, 1, 0, 0) := Or.inr ⟨mm_t7 (i := 188) rfl rfl, mm_t7 (i := 187) rfl rfl, mm_t1 (i := 14) rfl rfl, Or.inr (Or.inr ⟨rfl, mm_s7 (i := 15) rfl⟩), mm_pl13, mm_ds9, rfl⟩
theorem mm_k234 : mm_rok (⟨"GraveRailsModel", "isOf", "(II)Z"⟩, prog_14_method_3_code, 12, 2, 2, 1, 2) := Or.inr ⟨mm_t7 (i := 191) rfl rfl, mm_t7 (i := 190) rfl rfl, mm_t1 (i := 14) rfl rfl, Or.inl rfl, mm_pl13, mm_ds13, rfl⟩
theorem mm_k235 : mm_rok (⟨"GraveRailsModel", "lastSight", "()I"⟩, prog_14_method_97_code, 12, 3, 0, 0, 1) := Or.inr ⟨mm_t7 (i := 195) rfl rfl, mm_t7 (i := 194) rfl rfl, mm_t1 (i := 14) rfl rfl, Or.inr (Or.inr ⟨rfl, mm_s8 (i := 0) rfl⟩), mm_pl13, mm_ds0, rfl⟩
theorem mm_k236 : mm_rok (⟨"GraveRailsModel", "isSeenSo", "()Z"⟩, prog_14_method_96_code, 12, 3, 0, 0, 2) := Or.inr ⟨mm_t7 (i := 199) rfl rfl, mm_t7 (i := 198) rfl rfl, mm_t1 (i := 14) rfl rfl, Or.inr (Or.inr ⟨rfl, mm_s8 (i := 1) rfl⟩), mm_pl13, mm_ds5, rfl⟩
theorem mm_k237 : mm_rok (⟨"GraveRailsModel", "look", "(II)I"⟩, prog_14_method_102_code, 12, 8, 2, 0, 1) := Or.inr ⟨mm_t7 (i := 203) rfl rfl, mm_t7 (i := 201) rfl rfl, mm_t1 (i := 14) rfl rfl, Or.inr (Or.inr ⟨rfl, mm_t7 (i := 202) rfl rfl⟩), mm_pl13, mm_ds11, rfl⟩
theorem mm_k238 : mm_rok (⟨"GraveRailsModel", "countsCells", "(I)V"⟩, prog_14_method_101_code, 12, 4, 1, 0, 0) := Or.inr ⟨mm_t7 (i := 207) rfl rfl, mm_t7 (i := 206) rfl rfl, mm_t1 (i := 14) rfl rfl, Or.inr (Or.inr ⟨rfl, mm_s8 (i := 2) rfl⟩), mm_pl13, mm_ds9, rfl⟩
theorem mm_k239 : mm_rok (⟨"GraveRailsModel", "war", "(I)I"⟩, prog_14_method_103_code, 12, 5, 1, 0, 1) := Or.inr ⟨mm_t7 (i := 211) rfl rfl, mm_t7 (i := 209) rfl rfl, mm_t1 (i := 14) rfl rfl, Or.inr (Or.inr ⟨rfl, mm_t7 (i := 210) rfl rfl⟩), mm_pl13, mm_ds7, rfl⟩
theorem mm_rok14 : ∀ r ∈ mm_rows14, mm_rok r := List.forall_mem_cons.mpr ⟨mm_k224, List.forall_mem_cons.mpr ⟨mm_k225, List.forall_mem_cons.mpr ⟨mm_k226, List.forall_mem_cons.mpr ⟨mm_k227, List.forall_mem_cons.mpr ⟨mm_k228, List.forall_mem_cons.mpr ⟨mm_k229, List.forall_mem_cons.mpr ⟨mm_k230, List.forall_mem_cons.mpr ⟨mm_k231, List.forall_mem_cons.mpr ⟨mm_k232, List.forall_mem_cons.mpr ⟨mm_k233, List.forall_mem_cons.mpr ⟨mm_k234, List.forall_mem_cons.mpr ⟨mm_k235, List.forall_mem_cons.mpr ⟨mm_k236, List.forall_mem_cons.mpr ⟨mm_k237, List.forall_mem_cons.mpr ⟨mm_k238, List.forall_mem_cons.mpr ⟨mm_k239, fun _ h => absurd h List.not_mem_nil⟩⟩⟩⟩⟩⟩⟩⟩⟩⟩⟩⟩⟩⟩⟩⟩
theorem mm_k240 : mm_rok (⟨"GraveRailsModel", "order", "(I)I"⟩, prog_14_method_104_code, 12, 5, 1, 0, 1) := Or.inr ⟨mm_t7 (i := 216) rfl rfl, mm_t7 (i := 214) rfl rfl, mm_t1 (i := 14) rfl rfl, Or.inr (Or.inr ⟨rfl, mm_t7 (i := 215) rfl rfl⟩), mm_pl13, mm_ds7, rfl⟩
theorem mm_k241 : mm_rok (⟨"GraveRailsModel", "seed", "(I)I"⟩, prog_14_method_105_code, 12, 3, 1, 0, 1) := Or.inr ⟨mm_t7 (i := 220) rfl rfl, mm_t7 (i := 218) rfl rfl, mm_t1 (i := 14) rfl rfl, Or.inr (Or.inr ⟨rfl, mm_t7 (i := 219) rfl rfl⟩), mm_pl13, mm_ds7, rfl⟩
theorem mm_k242 : mm_rok (⟨"GraveRailsModel", "drawn", "(IIII)I"⟩, prog_14_method_107_code, 12, 9, 4, 0, 1) := Or.inr ⟨mm_t7 (i := 224) rfl rfl, mm_t7 (i := 222) rfl rfl, mm_t1 (i := 14) rfl rfl, Or.inr (Or.inr ⟨rfl, mm_t7 (i := 223) rfl rfl⟩), mm_pl13, mm_ds18, rfl⟩
theorem mm_k243 : mm_rok (⟨"GraveRailsModel", "draw", "(I)I"⟩, prog_14_method_106_code, 12, 2, 1, 0, 1) := Or.inr ⟨mm_t7 (i := 231) rfl rfl, mm_t7 (i := 230) rfl rfl, mm_t1 (i := 14) rfl rfl, Or.inr (Or.inr ⟨rfl, mm_s8 (i := 3) rfl⟩), mm_pl13, mm_ds7, rfl⟩
theorem mm_k244 : mm_rok (⟨"GraveRailsModel", "count", "(I)I"⟩, prog_14_method_108_code, 12, 4, 1, 0, 1) := Or.inr ⟨mm_t7 (i := 239) rfl rfl, mm_t7 (i := 237) rfl rfl, mm_t1 (i := 14) rfl rfl, Or.inr (Or.inr ⟨rfl, mm_t7 (i := 238) rfl rfl⟩), mm_pl13, mm_ds7, rfl⟩
theorem mm_k245 : mm_rok (⟨"GraveRailsModel", "image", "(I)I"⟩, prog_14_method_109_code, 12, 3, 1, 0, 1) := Or.inr ⟨mm_t8 (i := 3) rfl rfl, mm_t8 (i := 1) rfl rfl, mm_t1 (i := 14) rfl rfl, Or.inr (Or.inr ⟨rfl, mm_t8 (i := 2) rfl rfl⟩), mm_pl13, mm_ds7, rfl⟩
theorem mm_k246 : mm_rok (⟨"GraveRailsModel", "back", "(I)I"⟩, prog_14_method_110_code, 12, 3, 1, 0, 1) := Or.inr ⟨mm_t8 (i := 7) rfl rfl, mm_t8 (i := 5) rfl rfl, mm_t1 (i := 14) rfl rfl, Or.inr (Or.inr ⟨rfl, mm_t8 (i := 6) rfl rfl⟩), mm_pl13, mm_ds7, rfl⟩
theorem mm_k247 : mm_rok (⟨"java/util/Arrays", "fill", "([II)V"⟩, prog_20_method_103_code, 14, 4, 2, 1, 0) := Or.inr ⟨mm_t1 (i := 77) rfl rfl, mm_t1 (i := 76) rfl rfl, mm_t1 (i := 5) rfl rfl, Or.inl rfl, mm_pl15, mm_ds40, rfl⟩
theorem mm_k248 : mm_rok (⟨"java/lang/String", "length", "()I"⟩, prog_16_method_54_code, 15, 1, 0, 0, 1) := Or.inr ⟨mm_t3 (i := 57) rfl rfl, mm_t3 (i := 55) rfl rfl, mm_t1 (i := 16) rfl rfl, Or.inr (Or.inr ⟨rfl, mm_t3 (i := 56) rfl rfl⟩), mm_pl14, mm_ds0, rfl⟩
theorem mm_k249 : mm_rok (⟨"java/lang/String", "charAt", "(I)C"⟩, prog_16_method_56_code, 15, 2, 1, 0, 5) := Or.inr ⟨mm_t3 (i := 67) rfl rfl, mm_t3 (i := 65) rfl rfl, mm_t1 (i := 16) rfl rfl, Or.inr (Or.inr ⟨rfl, mm_t3 (i := 66) rfl rfl⟩), mm_pl14, mm_ds6, rfl⟩
theorem mm_rok15 : ∀ r ∈ mm_rows15, mm_rok r := List.forall_mem_cons.mpr ⟨mm_k240, List.forall_mem_cons.mpr ⟨mm_k241, List.forall_mem_cons.mpr ⟨mm_k242, List.forall_mem_cons.mpr ⟨mm_k243, List.forall_mem_cons.mpr ⟨mm_k244, List.forall_mem_cons.mpr ⟨mm_k245, List.forall_mem_cons.mpr ⟨mm_k246, List.forall_mem_cons.mpr ⟨mm_k247, List.forall_mem_cons.mpr ⟨mm_k248, List.forall_mem_cons.mpr ⟨mm_k249, List.forall_mem_cons.mpr ⟨Or.inl rfl, fun _ h => absurd h List.not_mem_nil⟩⟩⟩⟩⟩⟩⟩⟩⟩⟩⟩
theorem mm_roks : ∀ r ∈ mm_rows, mm_rok r := by
  show ∀ r ∈ mm_rows0 ++ (mm_rows1 ++ (mm_rows2 ++ (mm_rows3 ++ (mm_rows4 ++ (mm_rows5 ++ (mm_rows6 ++ (mm_rows7 ++ (mm_rows8 ++ (mm_rows9 ++ (mm_rows10 ++ (mm_rows11 ++ (mm_rows12 ++ (mm_rows13 ++ (mm_rows14 ++ (mm_rows15))))))))))))))), mm_rok r
  exact List.forall_mem_append.mpr ⟨mm_rok0, List.forall_mem_append.mpr ⟨mm_rok1, List.forall_mem_append.mpr ⟨mm_rok2, List.forall_mem_append.mpr ⟨mm_rok3, List.forall_mem_append.mpr ⟨mm_rok4, List.forall_mem_append.mpr ⟨mm_rok5, List.forall_mem_append.mpr ⟨mm_rok6, List.forall_mem_append.mpr ⟨mm_rok7, List.forall_mem_append.mpr ⟨mm_rok8, List.forall_mem_append.mpr ⟨mm_rok9, List.forall_mem_append.mpr ⟨mm_rok10, List.forall_mem_append.mpr ⟨mm_rok11, List.forall_mem_append.mpr ⟨mm_rok12, List.forall_mem_append.mpr ⟨mm_rok13, List.forall_mem_append.mpr ⟨mm_rok14, mm_rok15⟩⟩⟩⟩⟩⟩⟩⟩⟩⟩⟩⟩⟩⟩⟩
theorem mm_len : mm_rows.length = 251 := by decide +kernel
theorem mm_lawn : ∀ j, j < 250 → (mm_y j).name ≠ "law" := by
  have h : (List.range 250).all (fun j => ((mm_y j).name.length != 3 || (mm_y j).name != "law")) = true := by decide +kernel
  intro j hj hn
  have h1 := List.all_eq_true.mp h j (List.mem_range.mpr hj)
  rw [hn] at h1
  exact absurd h1 (by decide +kernel)
theorem mm_m_ok {j : Nat} (hj : j < 250) : Cond.code (mm_y j) (mm_by j) (mm_ml j) (mm_rt j) ∈ mm_gw ∧ (if mm_st j = 1 then Cond.static (mm_y j) else Cond.instanceMethod (mm_y j)) ∈ mm_gw ∧ Cond.initialized (mm_y j).cls ∈ mm_gw ∧
    (mm_st j = 1 ∨ (mm_st j = 2 ∧ (mm_y j).name = "<init>") ∨ (mm_st j = 0 ∧ Cond.selects (mm_y j).cls (mm_y j) (mm_y j) ∈ mm_gw)) ∧ (((mm_y j).cls ≠ "java/lang/invoke/MethodHandle" ∧ (mm_y j).cls ≠ "java/lang/invoke/VarHandle") ∧ plainName (mm_y j).cls = true) ∧ (parseMethodDescriptor (mm_y j).desc).map (fun d => d.parameters.length) = some (mm_np j) ∧ (mm_y j).cls = mm_R (mm_ow j) := by
  have hl : j < mm_rows.length := by rw [mm_len]; omega
  have h1 : mm_rows[j]? = some (mm_row j) := by
    rw [mm_row, List.getD_eq_getElem?_getD, List.getElem?_eq_getElem hl]; rfl
  rcases mm_roks _ (List.mem_of_getElem? h1) with h | h
  · exact absurd h (mm_lawn j hj)
  · exact h
theorem mm_ow13 {j : Nat} (hj : j < 248) : mm_ow j < 13 ∨ j = 247 := by
  have h : (List.range 248).all (fun j => decide (mm_ow j < 13 ∨ j = 247)) = true := by decide +kernel
  exact of_decide_eq_true (List.all_eq_true.mp h j (List.mem_range.mpr hj))
theorem mm_ini_rt {j : Nat} (hj : j < 250) (h : mm_st j = 2) : mm_rt j = none := by
  have h1 : (List.range 250).all (fun j => decide (mm_st j = 2 → mm_rk j = 0)) = true := by decide +kernel
  have h2 := of_decide_eq_true (List.all_eq_true.mp h1 j (List.mem_range.mpr hj)) h
  rw [mm_rt, h2]
  rfl
def mm_f (a : Nat) : String × String × String × Bool := match mm_cls[a / 100]? with
  | some q => q.2.1 (a % 100)
  | none => ("", "", "", false)
/-- field links: of each class, (index of the pool, 100 * class + field) -/
def mm_fl0 : List (Nat × Nat) := [(12, 0), (21, 1), (28, 2), (34, 3), (41, 5), (45, 6), (52, 7), (59, 8), (66, 9), (73, 10), (80, 11), (85, 801), (97, 900), (100, 1100), (107, 901), (113, 902), (117, 600), (120, 100), (121, 500), (125, 1002), (128, 4), (135, 903), (142, 703), (146, 704), (149, 705), (152, 706), (155, 707), (158, 708), (165, 709), (168, 710), (171, 711), (192, 700), (205, 200), (208, 202), (214, 701), (222, 1000), (232, 1001), (249, 201), (257, 501), (268, 503), (271, 504), (274, 904), (287, 204), (290, 203), (293, 702), (309, 905)]
def mm_fl1 : List (Nat × Nat) := [(11, 102), (26, 101), (30, 100)]
def mm_fl2 : List (Nat × Nat) := [(12, 200), (18, 201), (25, 205), (29, 208), (32, 209), (35, 211), (39, 206), (43, 202), (47, 203), (50, 204), (58, 700), (65, 207), (74, 210), (87, 704), (93, 703), (96, 706), (99, 707), (102, 702), (105, 701), (108, 705), (133, 708), (147, 709), (154, 1000), (160, 711), (166, 710), (169, 1001)]
def mm_fl3 : List (Nat × Nat) := [(9, 300), (15, 302), (18, 303), (21, 304), (24, 306), (28, 301), (32, 305)]
def mm_fl4 : List (Nat × Nat) := [(9, 400), (18, 401), (25, 402), (72, 806), (101, 804), (111, 805)]
def mm_fl5 : List (Nat × Nat) := [(9, 502), (15, 505), (19, 507), (25, 508), (32, 510), (36, 500), (40, 900), (43, 509), (50, 501), (53, 506), (56, 902), (64, 1002), (67, 1005), (74, 701), (75, 705), (92, 200), (108, 702), (115, 503), (118, 504), (129, 704)]
def mm_fl6 : List (Nat × Nat) := [(9, 601), (15, 602), (18, 603), (21, 600), (37, 700), (45, 704)]
def mm_fl7 : List (Nat × Nat) := [(9, 703), (15, 704), (18, 705), (21, 706), (24, 707), (27, 708), (30, 709), (33, 710), (36, 711), (39, 700), (43, 701), (46, 702), (55, 1002), (58, 1003), (59, 1004), (60, 1005)]
def mm_fl8 : List (Nat × Nat) := [(9, 800), (15, 801), (19, 803), (22, 806), (25, 804), (31, 802), (50, 805)]
def mm_fl9 : List (Nat × Nat) := [(12, 900), (21, 901), (28, 902), (32, 903), (46, 904)]
def mm_fl10 : List (Nat × Nat) := [(9, 1003), (15, 1004), (18, 1005), (21, 1006), (24, 1007), (27, 1009), (30, 1011), (39, 1000), (43, 1001), (46, 1002), (49, 1008), (52, 1010)]
def mm_fl11 : List (Nat × Nat) := [(12, 1100), (18, 1101), (38, 806), (76, 1002), (79, 1008), (82, 1010), (89, 1000), (92, 1001)]
def mm_fl12 : List (Nat × Nat) := [(7, 1200), (13, 1203), (17, 1204), (20, 1205), (23, 1206), (26, 1207), (29, 1215), (32, 1217), (36, 1219), (39, 1220), (42, 1221), (46, 1223), (49, 1227), (52, 1229), (55, 1231), (58, 1232), (61, 1234), (64, 1236), (67, 1237), (70, 1238), (73, 1239), (77, 1201), (84, 1209), (87, 1208), (112, 1210), (143, 1211), (146, 1212), (149, 1213), (152, 1216), (258, 1214), (270, 1202), (280, 1230), (283, 1218), (317, 1226), (321, 1224), (360, 1228), (363, 1225), (428, 1233), (442, 1222), (445, 1235)]
def mm_fl13 : List (Nat × Nat) := []
def mm_fl (o : Nat) : List (Nat × Nat) := match o with
  | 0 => mm_fl0
  | 1 => mm_fl1
  | 2 => mm_fl2
  | 3 => mm_fl3
  | 4 => mm_fl4
  | 5 => mm_fl5
  | 6 => mm_fl6
  | 7 => mm_fl7
  | 8 => mm_fl8
  | 9 => mm_fl9
  | 10 => mm_fl10
  | 11 => mm_fl11
  | 12 => mm_fl12
  | 13 => mm_fl13
  | _ => []
set_option maxRecDepth 40000 in
theorem mm_flk0 : ∀ q ∈ mm_fl0, Cond.fieldLink (mm_R 0) q.1 (mm_f q.2).1 (mm_f q.2).2.1 (mm_f q.2).2.2.1 ∈ mm_gw := List.forall_mem_cons.mpr ⟨mm_t2 (i := 201) rfl rfl, List.forall_mem_cons.mpr ⟨mm_t2 (i := 202) rfl rfl, List.forall_mem_cons.mpr ⟨mm_t2 (i := 203) rfl rfl, List.forall_mem_cons.mpr ⟨mm_t2 (i := 204) rfl rfl, List.forall_mem_cons.mpr ⟨mm_t2 (i := 206) rfl rfl, List.forall_mem_cons.mpr ⟨mm_t2 (i := 207) rfl rfl, List.forall_mem_cons.mpr ⟨mm_t2 (i := 208) rfl rfl, List.forall_mem_cons.mpr ⟨mm_t2 (i := 209) rfl rfl, List.forall_mem_cons.mpr ⟨mm_t2 (i := 210) rfl rfl, List.forall_mem_cons.mpr ⟨mm_t2 (i := 211) rfl rfl, List.forall_mem_cons.mpr ⟨mm_t2 (i := 212) rfl rfl, List.forall_mem_cons.mpr ⟨mm_t1 (i := 36) rfl rfl, List.forall_mem_cons.mpr ⟨mm_t2 (i := 50) rfl rfl, List.forall_mem_cons.mpr ⟨mm_t1 (i := 133) rfl rfl, List.forall_mem_cons.mpr ⟨mm_t2 (i := 52) rfl rfl, List.forall_mem_cons.mpr ⟨mm_t2 (i := 55) rfl rfl, List.forall_mem_cons.mpr ⟨mm_t2 (i := 35) rfl rfl, List.forall_mem_cons.mpr ⟨mm_t2 (i := 85) rfl rfl, List.forall_mem_cons.mpr ⟨mm_t2 (i := 159) rfl rfl, List.forall_mem_cons.mpr ⟨mm_t1 (i := 90) rfl rfl, List.forall_mem_cons.mpr ⟨mm_t2 (i := 205) rfl rfl, List.forall_mem_cons.mpr ⟨mm_t2 (i := 57) rfl rfl, List.forall_mem_cons.mpr ⟨mm_t1 (i := 215) rfl rfl, List.forall_mem_cons.mpr ⟨mm_t1 (i := 219) rfl rfl, List.forall_mem_cons.mpr ⟨mm_t1 (i := 224) rfl rfl, List.forall_mem_cons.mpr ⟨mm_t1 (i := 227) rfl rfl, List.forall_mem_cons.mpr ⟨mm_t1 (i := 230) rfl rfl, List.forall_mem_cons.mpr ⟨mm_t1 (i := 232) rfl rfl, List.forall_mem_cons.mpr ⟨mm_t1 (i := 235) rfl rfl, List.forall_mem_cons.mpr ⟨mm_t1 (i := 238) rfl rfl, List.forall_mem_cons.mpr ⟨mm_t2 (i := 1) rfl rfl, List.forall_mem_cons.mpr ⟨mm_t1 (i := 204) rfl rfl, List.forall_mem_cons.mpr ⟨mm_t2 (i := 107) rfl rfl, List.forall_mem_cons.mpr ⟨mm_t2 (i := 111) rfl rfl, List.forall_mem_cons.mpr ⟨mm_t1 (i := 208) rfl rfl, List.forall_mem_cons.mpr ⟨mm_t1 (i := 81) rfl rfl, List.forall_mem_cons.mpr ⟨mm_t1 (i := 85) rfl rfl, List.forall_mem_cons.mpr ⟨mm_t2 (i := 109) rfl rfl, List.forall_mem_cons.mpr ⟨mm_t2 (i := 161) rfl rfl, List.forall_mem_cons.mpr ⟨mm_t2 (i := 164) rfl rfl, List.forall_mem_cons.mpr ⟨mm_t2 (i := 166) rfl rfl, List.forall_mem_cons.mpr ⟨mm_t2 (i := 59) rfl rfl, List.forall_mem_cons.mpr ⟨mm_t2 (i := 115) rfl rfl, List.forall_mem_cons.mpr ⟨mm_t2 (i := 113) rfl rfl, List.forall_mem_cons.mpr ⟨mm_t1 (i := 212) rfl rfl, List.forall_mem_cons.mpr ⟨mm_t2 (i := 60) rfl rfl, fun _ h => absurd h List.not_mem_nil⟩⟩⟩⟩⟩⟩⟩⟩⟩⟩⟩⟩⟩⟩⟩⟩⟩⟩⟩⟩⟩⟩⟩⟩⟩⟩⟩⟩⟩⟩⟩⟩⟩⟩⟩⟩⟩⟩⟩⟩⟩⟩⟩⟩⟩⟩
set_option maxRecDepth 40000 in
theorem mm_flk1 : ∀ q ∈ mm_fl1, Cond.fieldLink (mm_R 1) q.1 (mm_f q.2).1 (mm_f q.2).2.1 (mm_f q.2).2.2.1 ∈ mm_gw := List.forall_mem_cons.mpr ⟨mm_t2 (i := 87) rfl rfl, List.forall_mem_cons.mpr ⟨mm_t2 (i := 86) rfl rfl, List.forall_mem_cons.mpr ⟨mm_t2 (i := 84) rfl rfl, fun _ h => absurd h List.not_mem_nil⟩⟩⟩
set_option maxRecDepth 40000 in
theorem mm_flk2 : ∀ q ∈ mm_fl2, Cond.fieldLink (mm_R 2) q.1 (mm_f q.2).1 (mm_f q.2).2.1 (mm_f q.2).2.2.1 ∈ mm_gw := List.forall_mem_cons.mpr ⟨mm_t2 (i := 105) rfl rfl, List.forall_mem_cons.mpr ⟨mm_t2 (i := 108) rfl rfl, List.forall_mem_cons.mpr ⟨mm_t2 (i := 116) rfl rfl, List.forall_mem_cons.mpr ⟨mm_t2 (i := 119) rfl rfl, List.forall_mem_cons.mpr ⟨mm_t2 (i := 120) rfl rfl, List.forall_mem_cons.mpr ⟨mm_t2 (i := 122) rfl rfl, List.forall_mem_cons.mpr ⟨mm_t2 (i := 117) rfl rfl, List.forall_mem_cons.mpr ⟨mm_t2 (i := 110) rfl rfl, List.forall_mem_cons.mpr ⟨mm_t2 (i := 112) rfl rfl, List.forall_mem_cons.mpr ⟨mm_t2 (i := 114) rfl rfl, List.forall_mem_cons.mpr ⟨mm_t1 (i := 202) rfl rfl, List.forall_mem_cons.mpr ⟨mm_t2 (i := 118) rfl rfl, List.forall_mem_cons.mpr ⟨mm_t2 (i := 121) rfl rfl, List.forall_mem_cons.mpr ⟨mm_t1 (i := 217) rfl rfl, List.forall_mem_cons.mpr ⟨mm_t1 (i := 214) rfl rfl, List.forall_mem_cons.mpr ⟨mm_t1 (i := 226) rfl rfl, List.forall_mem_cons.mpr ⟨mm_t1 (i := 229) rfl rfl, List.forall_mem_cons.mpr ⟨mm_t1 (i := 210) rfl rfl, List.forall_mem_cons.mpr ⟨mm_t1 (i := 207) rfl rfl, List.forall_mem_cons.mpr ⟨mm_t1 (i := 223) rfl rfl, List.forall_mem_cons.mpr ⟨mm_t1 (i := 233) rfl rfl, List.forall_mem_cons.mpr ⟨mm_t1 (i := 236) rfl rfl, List.forall_mem_cons.mpr ⟨mm_t1 (i := 80) rfl rfl, List.forall_mem_cons.mpr ⟨mm_t2 (i := 2) rfl rfl, List.forall_mem_cons.mpr ⟨mm_t1 (i := 239) rfl rfl, List.forall_mem_cons.mpr ⟨mm_t1 (i := 84) rfl rfl, fun _ h => absurd h List.not_mem_nil⟩⟩⟩⟩⟩⟩⟩⟩⟩⟩⟩⟩⟩⟩⟩⟩⟩⟩⟩⟩⟩⟩⟩⟩⟩⟩
set_option maxRecDepth 40000 in
theorem mm_flk3 : ∀ q ∈ mm_fl3, Cond.fieldLink (mm_R 3) q.1 (mm_f q.2).1 (mm_f q.2).2.1 (mm_f q.2).2.2.1 ∈ mm_gw := List.forall_mem_cons.mpr ⟨mm_t1 (i := 152) rfl rfl, List.forall_mem_cons.mpr ⟨mm_t1 (i := 154) rfl rfl, List.forall_mem_cons.mpr ⟨mm_t1 (i := 155) rfl rfl, List.forall_mem_cons.mpr ⟨mm_t1 (i := 156) rfl rfl, List.forall_mem_cons.mpr ⟨mm_t1 (i := 158) rfl rfl, List.forall_mem_cons.mpr ⟨mm_t1 (i := 153) rfl rfl, List.forall_mem_cons.mpr ⟨mm_t1 (i := 157) rfl rfl, fun _ h => absurd h List.not_mem_nil⟩⟩⟩⟩⟩⟩⟩
set_option maxRecDepth 40000 in
theorem mm_flk4 : ∀ q ∈ mm_fl4, Cond.fieldLink (mm_R 4) q.1 (mm_f q.2).1 (mm_f q.2).2.1 (mm_f q.2).2.2.1 ∈ mm_gw := List.forall_mem_cons.mpr ⟨mm_t1 (i := 175) rfl rfl, List.forall_mem_cons.mpr ⟨mm_t1 (i := 176) rfl rfl, List.forall_mem_cons.mpr ⟨mm_t1 (i := 177) rfl rfl, List.forall_mem_cons.mpr ⟨mm_t1 (i := 45) rfl rfl, List.forall_mem_cons.mpr ⟨mm_t1 (i := 41) rfl rfl, List.forall_mem_cons.mpr ⟨mm_t1 (i := 43) rfl rfl, fun _ h => absurd h List.not_mem_nil⟩⟩⟩⟩⟩⟩
set_option maxRecDepth 40000 in
theorem mm_flk5 : ∀ q ∈ mm_fl5, Cond.fieldLink (mm_R 5) q.1 (mm_f q.2).1 (mm_f q.2).2.1 (mm_f q.2).2.2.1 ∈ mm_gw := List.forall_mem_cons.mpr ⟨mm_t2 (i := 162) rfl rfl, List.forall_mem_cons.mpr ⟨mm_t2 (i := 167) rfl rfl, List.forall_mem_cons.mpr ⟨mm_t2 (i := 169) rfl rfl, List.forall_mem_cons.mpr ⟨mm_t2 (i := 170) rfl rfl, List.forall_mem_cons.mpr ⟨mm_t2 (i := 172) rfl rfl, List.forall_mem_cons.mpr ⟨mm_t2 (i := 158) rfl rfl, List.forall_mem_cons.mpr ⟨mm_t2 (i := 49) rfl rfl, List.forall_mem_cons.mpr ⟨mm_t2 (i := 171) rfl rfl, List.forall_mem_cons.mpr ⟨mm_t2 (i := 160) rfl rfl, List.forall_mem_cons.mpr ⟨mm_t2 (i := 168) rfl rfl, List.forall_mem_cons.mpr ⟨mm_t2 (i := 54) rfl rfl, List.forall_mem_cons.mpr ⟨mm_t1 (i := 87) rfl rfl, List.forall_mem_cons.mpr ⟨mm_t1 (i := 96) rfl rfl, List.forall_mem_cons.mpr ⟨mm_t1 (i := 206) rfl rfl, List.forall_mem_cons.mpr ⟨mm_t1 (i := 222) rfl rfl, List.forall_mem_cons.mpr ⟨mm_t2 (i := 106) rfl rfl, List.forall_mem_cons.mpr ⟨mm_t1 (i := 211) rfl rfl, List.forall_mem_cons.mpr ⟨mm_t2 (i := 163) rfl rfl, List.forall_mem_cons.mpr ⟨mm_t2 (i := 165) rfl rfl, List.forall_mem_cons.mpr ⟨mm_t1 (i := 220) rfl rfl, fun _ h => absurd h List.not_mem_nil⟩⟩⟩⟩⟩⟩⟩⟩⟩⟩⟩⟩⟩⟩⟩⟩⟩⟩⟩⟩
set_option maxRecDepth 40000 in
theorem mm_flk6 : ∀ q ∈ mm_fl6, Cond.fieldLink (mm_R 6) q.1 (mm_f q.2).1 (mm_f q.2).2.1 (mm_f q.2).2.2.1 ∈ mm_gw := List.forall_mem_cons.mpr ⟨mm_t2 (i := 36) rfl rfl, List.forall_mem_cons.mpr ⟨mm_t2 (i := 37) rfl rfl, List.forall_mem_cons.mpr ⟨mm_t2 (i := 38) rfl rfl, List.forall_mem_cons.mpr ⟨mm_t2 (i := 34) rfl rfl, List.forall_mem_cons.mpr ⟨mm_t1 (i := 203) rfl rfl, List.forall_mem_cons.mpr ⟨mm_t1 (i := 218) rfl rfl, fun _ h => absurd h List.not_mem_nil⟩⟩⟩⟩⟩⟩
set_option maxRecDepth 40000 in
theorem mm_flk7 : ∀ q ∈ mm_fl7, Cond.fieldLink (mm_R 7) q.1 (mm_f q.2).1 (mm_f q.2).2.1 (mm_f q.2).2.2.1 ∈ mm_gw := List.forall_mem_cons.mpr ⟨mm_t1 (i := 213) rfl rfl, List.forall_mem_cons.mpr ⟨mm_t1 (i := 216) rfl rfl, List.forall_mem_cons.mpr ⟨mm_t1 (i := 221) rfl rfl, List.forall_mem_cons.mpr ⟨mm_t1 (i := 225) rfl rfl, List.forall_mem_cons.mpr ⟨mm_t1 (i := 228) rfl rfl, List.forall_mem_cons.mpr ⟨mm_t1 (i := 231) rfl rfl, List.forall_mem_cons.mpr ⟨mm_t1 (i := 234) rfl rfl, List.forall_mem_cons.mpr ⟨mm_t1 (i := 237) rfl rfl, List.forall_mem_cons.mpr ⟨mm_t2 (i := 0) rfl rfl, List.forall_mem_cons.mpr ⟨mm_t1 (i := 201) rfl rfl, List.forall_mem_cons.mpr ⟨mm_t1 (i := 205) rfl rfl, List.forall_mem_cons.mpr ⟨mm_t1 (i := 209) rfl rfl, List.forall_mem_cons.mpr ⟨mm_t1 (i := 88) rfl rfl, List.forall_mem_cons.mpr ⟨mm_t1 (i := 92) rfl rfl, List.forall_mem_cons.mpr ⟨mm_t1 (i := 94) rfl rfl, List.forall_mem_cons.mpr ⟨mm_t1 (i := 97) rfl rfl, fun _ h => absurd h List.not_mem_nil⟩⟩⟩⟩⟩⟩⟩⟩⟩⟩⟩⟩⟩⟩⟩⟩
set_option maxRecDepth 40000 in
theorem mm_flk8 : ∀ q ∈ mm_fl8, Cond.fieldLink (mm_R 8) q.1 (mm_f q.2).1 (mm_f q.2).2.1 (mm_f q.2).2.2.1 ∈ mm_gw := List.forall_mem_cons.mpr ⟨mm_t1 (i := 35) rfl rfl, List.forall_mem_cons.mpr ⟨mm_t1 (i := 37) rfl rfl, List.forall_mem_cons.mpr ⟨mm_t1 (i := 39) rfl rfl, List.forall_mem_cons.mpr ⟨mm_t1 (i := 46) rfl rfl, List.forall_mem_cons.mpr ⟨mm_t1 (i := 40) rfl rfl, List.forall_mem_cons.mpr ⟨mm_t1 (i := 38) rfl rfl, List.forall_mem_cons.mpr ⟨mm_t1 (i := 42) rfl rfl, fun _ h => absurd h List.not_mem_nil⟩⟩⟩⟩⟩⟩⟩
set_option maxRecDepth 40000 in
theorem mm_flk9 : ∀ q ∈ mm_fl9, Cond.fieldLink (mm_R 9) q.1 (mm_f q.2).1 (mm_f q.2).2.1 (mm_f q.2).2.2.1 ∈ mm_gw := List.forall_mem_cons.mpr ⟨mm_t2 (i := 48) rfl rfl, List.forall_mem_cons.mpr ⟨mm_t2 (i := 51) rfl rfl, List.forall_mem_cons.mpr ⟨mm_t2 (i := 53) rfl rfl, List.forall_mem_cons.mpr ⟨mm_t2 (i := 56) rfl rfl, List.forall_mem_cons.mpr ⟨mm_t2 (i := 58) rfl rfl, fun _ h => absurd h List.not_mem_nil⟩⟩⟩⟩⟩
set_option maxRecDepth 40000 in
theorem mm_flk10 : ∀ q ∈ mm_fl10, Cond.fieldLink (mm_R 10) q.1 (mm_f q.2).1 (mm_f q.2).2.1 (mm_f q.2).2.2.1 ∈ mm_gw := List.forall_mem_cons.mpr ⟨mm_t1 (i := 91) rfl rfl, List.forall_mem_cons.mpr ⟨mm_t1 (i := 93) rfl rfl, List.forall_mem_cons.mpr ⟨mm_t1 (i := 95) rfl rfl, List.forall_mem_cons.mpr ⟨mm_t1 (i := 98) rfl rfl, List.forall_mem_cons.mpr ⟨mm_t1 (i := 99) rfl rfl, List.forall_mem_cons.mpr ⟨mm_t1 (i := 102) rfl rfl, List.forall_mem_cons.mpr ⟨mm_t1 (i := 105) rfl rfl, List.forall_mem_cons.mpr ⟨mm_t1 (i := 78) rfl rfl, List.forall_mem_cons.mpr ⟨mm_t1 (i := 82) rfl rfl, List.forall_mem_cons.mpr ⟨mm_t1 (i := 86) rfl rfl, List.forall_mem_cons.mpr ⟨mm_t1 (i := 100) rfl rfl, List.forall_mem_cons.mpr ⟨mm_t1 (i := 103) rfl rfl, fun _ h => absurd h List.not_mem_nil⟩⟩⟩⟩⟩⟩⟩⟩⟩⟩⟩⟩
set_option maxRecDepth 40000 in
theorem mm_flk11 : ∀ q ∈ mm_fl11, Cond.fieldLink (mm_R 11) q.1 (mm_f q.2).1 (mm_f q.2).2.1 (mm_f q.2).2.2.1 ∈ mm_gw := List.forall_mem_cons.mpr ⟨mm_t1 (i := 132) rfl rfl, List.forall_mem_cons.mpr ⟨mm_t1 (i := 134) rfl rfl, List.forall_mem_cons.mpr ⟨mm_t1 (i := 44) rfl rfl, List.forall_mem_cons.mpr ⟨mm_t1 (i := 89) rfl rfl, List.forall_mem_cons.mpr ⟨mm_t1 (i := 101) rfl rfl, List.forall_mem_cons.mpr ⟨mm_t1 (i := 104) rfl rfl, List.forall_mem_cons.mpr ⟨mm_t1 (i := 79) rfl rfl, List.forall_mem_cons.mpr ⟨mm_t1 (i := 83) rfl rfl, fun _ h => absurd h List.not_mem_nil⟩⟩⟩⟩⟩⟩⟩⟩
set_option maxRecDepth 40000 in
theorem mm_flk12 : ∀ q ∈ mm_fl12, Cond.fieldLink (mm_R 12) q.1 (mm_f q.2).1 (mm_f q.2).2.1 (mm_f q.2).2.2.1 ∈ mm_gw := List.forall_mem_cons.mpr ⟨mm_t5 (i := 137) rfl rfl, List.forall_mem_cons.mpr ⟨mm_t5 (i := 140) rfl rfl, List.forall_mem_cons.mpr ⟨mm_t5 (i := 141) rfl rfl, List.forall_mem_cons.mpr ⟨mm_t5 (i := 142) rfl rfl, List.forall_mem_cons.mpr ⟨mm_t5 (i := 143) rfl rfl, List.forall_mem_cons.mpr ⟨mm_t5 (i := 144) rfl rfl, List.forall_mem_cons.mpr ⟨mm_t5 (i := 152) rfl rfl, List.forall_mem_cons.mpr ⟨mm_t5 (i := 154) rfl rfl, List.forall_mem_cons.mpr ⟨mm_t5 (i := 156) rfl rfl, List.forall_mem_cons.mpr ⟨mm_t5 (i := 157) rfl rfl, List.forall_mem_cons.mpr ⟨mm_t5 (i := 158) rfl rfl, List.forall_mem_cons.mpr ⟨mm_t5 (i := 160) rfl rfl, List.forall_mem_cons.mpr ⟨mm_t5 (i := 164) rfl rfl, List.forall_mem_cons.mpr ⟨mm_t5 (i := 166) rfl rfl, List.forall_mem_cons.mpr ⟨mm_t5 (i := 168) rfl rfl, List.forall_mem_cons.mpr ⟨mm_t5 (i := 169) rfl rfl, List.forall_mem_cons.mpr ⟨mm_t5 (i := 171) rfl rfl, List.forall_mem_cons.mpr ⟨mm_t5 (i := 173) rfl rfl, List.forall_mem_cons.mpr ⟨mm_t5 (i := 174) rfl rfl, List.forall_mem_cons.mpr ⟨mm_t5 (i := 175) rfl rfl, List.forall_mem_cons.mpr ⟨mm_t5 (i := 176) rfl rfl, List.forall_mem_cons.mpr ⟨mm_t5 (i := 138) rfl rfl, List.forall_mem_cons.mpr ⟨mm_t5 (i := 146) rfl rfl, List.forall_mem_cons.mpr ⟨mm_t5 (i := 145) rfl rfl, List.forall_mem_cons.mpr ⟨mm_t5 (i := 147) rfl rfl, List.forall_mem_cons.mpr ⟨mm_t5 (i := 148) rfl rfl, List.forall_mem_cons.mpr ⟨mm_t5 (i := 149) rfl rfl, List.forall_mem_cons.mpr ⟨mm_t5 (i := 150) rfl rfl, List.forall_mem_cons.mpr ⟨mm_t5 (i := 153) rfl rfl, List.forall_mem_cons.mpr ⟨mm_t5 (i := 151) rfl rfl, List.forall_mem_cons.mpr ⟨mm_t5 (i := 139) rfl rfl, List.forall_mem_cons.mpr ⟨mm_t5 (i := 167) rfl rfl, List.forall_mem_cons.mpr ⟨mm_t5 (i := 155) rfl rfl, List.forall_mem_cons.mpr ⟨mm_t5 (i := 163) rfl rfl, List.forall_mem_cons.mpr ⟨mm_t5 (i := 161) rfl rfl, List.forall_mem_cons.mpr ⟨mm_t5 (i := 165) rfl rfl, List.forall_mem_cons.mpr ⟨mm_t5 (i := 162) rfl rfl, List.forall_mem_cons.mpr ⟨mm_t5 (i := 170) rfl rfl, List.forall_mem_cons.mpr ⟨mm_t5 (i := 159) rfl rfl, List.forall_mem_cons.mpr ⟨mm_t5 (i := 172) rfl rfl, fun _ h => absurd h List.not_mem_nil⟩⟩⟩⟩⟩⟩⟩⟩⟩⟩⟩⟩⟩⟩⟩⟩⟩⟩⟩⟩⟩⟩⟩⟩⟩⟩⟩⟩⟩⟩⟩⟩⟩⟩⟩⟩⟩⟩⟩⟩
set_option maxRecDepth 40000 in
theorem mm_flk13 : ∀ q ∈ mm_fl13, Cond.fieldLink (mm_R 13) q.1 (mm_f q.2).1 (mm_f q.2).2.1 (mm_f q.2).2.2.1 ∈ mm_gw := fun _ h => absurd h List.not_mem_nil
theorem mm_fl_ok : ∀ (o : Nat) (q : Nat × Nat), q ∈ mm_fl o → Cond.fieldLink (mm_R o) q.1 (mm_f q.2).1 (mm_f q.2).2.1 (mm_f q.2).2.2.1 ∈ mm_gw
  | 0 => mm_flk0
  | 1 => mm_flk1
  | 2 => mm_flk2
  | 3 => mm_flk3
  | 4 => mm_flk4
  | 5 => mm_flk5
  | 6 => mm_flk6
  | 7 => mm_flk7
  | 8 => mm_flk8
  | 9 => mm_flk9
  | 10 => mm_flk10
  | 11 => mm_flk11
  | 12 => mm_flk12
  | 13 => mm_flk13
  | _ + 14 => fun _ h => absurd h List.not_mem_nil
/-- method links: (index, method) -/
def mm_mk0 : List (Nat × Nat) := [(18, 2), (27, 4), (51, 9), (72, 3), (89, 13), (93, 16), (103, 47), (110, 48), (131, 51), (138, 66), (161, 34), (174, 68), (177, 69), (181, 39), (185, 37), (188, 73), (195, 74), (199, 77), (202, 80), (206, 76), (211, 97), (215, 49), (219, 83), (225, 100), (228, 102), (235, 107), (239, 109), (242, 78), (245, 79), (252, 113), (253, 115), (258, 121), (261, 122), (264, 124), (296, 130), (299, 131), (302, 133), (306, 134)]
def mm_mk1 : List (Nat × Nat) := [(18, 75), (22, 76)]
def mm_mk2 : List (Nat × Nat) := [(24, 3), (54, 76), (61, 43), (68, 81), (71, 82), (77, 85), (81, 95), (84, 83), (90, 84), (111, 86), (115, 87), (118, 89), (124, 92), (127, 34), (130, 66), (136, 69), (140, 88), (143, 93), (150, 94), (157, 37), (163, 68)]
def mm_mk3 : List (Nat × Nat) := [(35, 90), (53, 91)]
def mm_mk4 : List (Nat × Nat) := [(22, 52), (29, 18), (36, 24), (40, 25), (44, 19), (47, 53), (50, 54), (53, 59), (58, 60), (62, 61), (65, 63), (68, 45), (75, 62), (80, 57), (87, 46), (91, 58), (95, 56), (98, 55), (105, 28)]
def mm_mk5 : List (Nat × Nat) := [(24, 3), (47, 116), (60, 117), (70, 48), (76, 79), (82, 118), (86, 119), (95, 120), (99, 80), (102, 247), (111, 125), (121, 126), (125, 83)]
def mm_mk6 : List (Nat × Nat) := [(41, 83)]
def mm_mk7 : List (Nat × Nat) := [(61, 49)]
def mm_mk8 : List (Nat × Nat) := [(28, 19), (40, 20), (43, 21), (46, 22), (53, 248), (59, 249), (63, 24), (67, 25), (70, 46)]
def mm_mk9 : List (Nat × Nat) := [(11, 3), (36, 47), (40, 76), (43, 135)]
def mm_mk10 : List (Nat × Nat) := [(33, 247), (61, 39)]
def mm_mk11 : List (Nat × Nat) := [(11, 3), (22, 17), (25, 18), (30, 23), (34, 45), (44, 24), (48, 25), (51, 26), (55, 19), (58, 27), (61, 29), (64, 32), (67, 36), (70, 40), (73, 42), (85, 28), (95, 30), (101, 31), (105, 33), (109, 35), (113, 34), (116, 37), (119, 38), (122, 41), (125, 43), (128, 44)]
def mm_mk12 : List (Nat × Nat) := [(80, 139), (90, 144), (94, 147), (98, 146), (102, 151), (105, 154), (108, 148), (115, 155), (155, 177), (159, 169), (164, 153), (167, 168), (170, 170), (173, 167), (177, 166), (180, 165), (185, 173), (188, 174), (191, 176), (194, 178), (197, 172), (200, 175), (209, 158), (212, 171), (215, 152), (223, 157), (226, 160), (231, 150), (234, 156), (237, 159), (242, 161), (247, 162), (250, 163), (253, 145), (261, 149), (264, 164), (267, 143), (273, 142), (276, 180), (286, 206), (290, 207), (294, 208), (298, 182), (301, 184), (308, 186), (311, 188), (314, 190), (324, 201), (327, 203), (330, 196), (333, 204), (336, 205), (342, 198), (345, 210), (348, 211), (351, 200), (354, 202), (357, 209), (366, 197), (369, 199), (372, 212), (375, 193), (378, 194), (381, 195), (384, 214), (388, 217), (394, 219), (397, 220), (400, 222), (403, 224), (408, 226), (413, 231), (416, 234), (419, 233), (422, 235), (425, 236), (431, 232), (434, 230), (437, 238), (463, 243)]
def mm_mk13 : List (Nat × Nat) := [(9, 0), (12, 137), (13, 12), (17, 138), (18, 14), (22, 140), (23, 15), (27, 179), (28, 50), (31, 141), (32, 64), (35, 181), (36, 65), (40, 183), (41, 67), (44, 185), (45, 70), (48, 187), (49, 71), (52, 189), (53, 72), (56, 192), (57, 96), (61, 213), (62, 98), (66, 215), (67, 99), (70, 216), (71, 101), (74, 191), (75, 103), (78, 218), (79, 104), (82, 221), (83, 105), (86, 223), (87, 106), (90, 225), (91, 108), (95, 227), (96, 112), (99, 228), (100, 114), (103, 229), (104, 123), (107, 237), (108, 110), (111, 239), (112, 111), (115, 240), (116, 127), (119, 241), (120, 128), (123, 242), (124, 129), (127, 244), (128, 132), (131, 245), (132, 136), (135, 246)]
def mm_mk (o : Nat) : List (Nat × Nat) := match o with
  | 0 => mm_mk0
  | 1 => mm_mk1
  | 2 => mm_mk2
  | 3 => mm_mk3
  | 4 => mm_mk4
  | 5 => mm_mk5
  | 6 => mm_mk6
  | 7 => mm_mk7
  | 8 => mm_mk8
  | 9 => mm_mk9
  | 10 => mm_mk10
  | 11 => mm_mk11
  | 12 => mm_mk12
  | 13 => mm_mk13
  | _ => []
set_option maxRecDepth 40000 in
theorem mm_mkk0 : ∀ q ∈ mm_mk0, Cond.methodLink (mm_R 0) q.1 (mm_y q.2) ∈ mm_gw := List.forall_mem_cons.mpr ⟨mm_t1 (i := 65) rfl rfl, List.forall_mem_cons.mpr ⟨mm_t1 (i := 142) rfl rfl, List.forall_mem_cons.mpr ⟨mm_t2 (i := 77) rfl rfl, List.forall_mem_cons.mpr ⟨mm_t2 (i := 197) rfl rfl, List.forall_mem_cons.mpr ⟨mm_t3 (i := 2) rfl rfl, List.forall_mem_cons.mpr ⟨mm_t3 (i := 14) rfl rfl, List.forall_mem_cons.mpr ⟨mm_t3 (i := 193) rfl rfl, List.forall_mem_cons.mpr ⟨mm_t3 (i := 200) rfl rfl, List.forall_mem_cons.mpr ⟨mm_t3 (i := 212) rfl rfl, List.forall_mem_cons.mpr ⟨mm_t4 (i := 47) rfl rfl, List.forall_mem_cons.mpr ⟨mm_t4 (i := 51) rfl rfl, List.forall_mem_cons.mpr ⟨mm_t4 (i := 56) rfl rfl, List.forall_mem_cons.mpr ⟨mm_t4 (i := 60) rfl rfl, List.forall_mem_cons.mpr ⟨mm_t4 (i := 68) rfl rfl, List.forall_mem_cons.mpr ⟨mm_t4 (i := 73) rfl rfl, List.forall_mem_cons.mpr ⟨mm_t4 (i := 78) rfl rfl, List.forall_mem_cons.mpr ⟨mm_t4 (i := 82) rfl rfl, List.forall_mem_cons.mpr ⟨mm_t4 (i := 98) rfl rfl, List.forall_mem_cons.mpr ⟨mm_t4 (i := 111) rfl rfl, List.forall_mem_cons.mpr ⟨mm_t4 (i := 188) rfl rfl, List.forall_mem_cons.mpr ⟨mm_t4 (i := 193) rfl rfl, List.forall_mem_cons.mpr ⟨mm_t4 (i := 197) rfl rfl, List.forall_mem_cons.mpr ⟨mm_t4 (i := 202) rfl rfl, List.forall_mem_cons.mpr ⟨mm_t4 (i := 207) rfl rfl, List.forall_mem_cons.mpr ⟨mm_t4 (i := 215) rfl rfl, List.forall_mem_cons.mpr ⟨mm_t4 (i := 235) rfl rfl, List.forall_mem_cons.mpr ⟨mm_t5 (i := 3) rfl rfl, List.forall_mem_cons.mpr ⟨mm_t4 (i := 102) rfl rfl, List.forall_mem_cons.mpr ⟨mm_t4 (i := 106) rfl rfl, List.forall_mem_cons.mpr ⟨mm_t5 (i := 19) rfl rfl, List.forall_mem_cons.mpr ⟨mm_t5 (i := 27) rfl rfl, List.forall_mem_cons.mpr ⟨mm_t5 (i := 56) rfl rfl, List.forall_mem_cons.mpr ⟨mm_t5 (i := 60) rfl rfl, List.forall_mem_cons.mpr ⟨mm_t5 (i := 68) rfl rfl, List.forall_mem_cons.mpr ⟨mm_t5 (i := 100) rfl rfl, List.forall_mem_cons.mpr ⟨mm_t5 (i := 104) rfl rfl, List.forall_mem_cons.mpr ⟨mm_t5 (i := 112) rfl rfl, List.forall_mem_cons.mpr ⟨mm_t5 (i := 116) rfl rfl, fun _ h => absurd h List.not_mem_nil⟩⟩⟩⟩⟩⟩⟩⟩⟩⟩⟩⟩⟩⟩⟩⟩⟩⟩⟩⟩⟩⟩⟩⟩⟩⟩⟩⟩⟩⟩⟩⟩⟩⟩⟩⟩⟩⟩
set_option maxRecDepth 40000 in
theorem mm_mkk1 : ∀ q ∈ mm_mk1, Cond.methodLink (mm_R 1) q.1 (mm_y q.2) ∈ mm_gw := List.forall_mem_cons.mpr ⟨mm_t4 (i := 86) rfl rfl, List.forall_mem_cons.mpr ⟨mm_t4 (i := 90) rfl rfl, fun _ h => absurd h List.not_mem_nil⟩⟩
set_option maxRecDepth 40000 in
theorem mm_mkk2 : ∀ q ∈ mm_mk2, Cond.methodLink (mm_R 2) q.1 (mm_y q.2) ∈ mm_gw := List.forall_mem_cons.mpr ⟨mm_t2 (i := 104) rfl rfl, List.forall_mem_cons.mpr ⟨mm_t4 (i := 110) rfl rfl, List.forall_mem_cons.mpr ⟨mm_t4 (i := 115) rfl rfl, List.forall_mem_cons.mpr ⟨mm_t4 (i := 116) rfl rfl, List.forall_mem_cons.mpr ⟨mm_t4 (i := 120) rfl rfl, List.forall_mem_cons.mpr ⟨mm_t4 (i := 132) rfl rfl, List.forall_mem_cons.mpr ⟨mm_t4 (i := 183) rfl rfl, List.forall_mem_cons.mpr ⟨mm_t4 (i := 124) rfl rfl, List.forall_mem_cons.mpr ⟨mm_t4 (i := 128) rfl rfl, List.forall_mem_cons.mpr ⟨mm_t4 (i := 136) rfl rfl, List.forall_mem_cons.mpr ⟨mm_t4 (i := 141) rfl rfl, List.forall_mem_cons.mpr ⟨mm_t4 (i := 151) rfl rfl, List.forall_mem_cons.mpr ⟨mm_t4 (i := 170) rfl rfl, List.forall_mem_cons.mpr ⟨mm_t4 (i := 140) rfl rfl, List.forall_mem_cons.mpr ⟨mm_t4 (i := 145) rfl rfl, List.forall_mem_cons.mpr ⟨mm_t4 (i := 146) rfl rfl, List.forall_mem_cons.mpr ⟨mm_t4 (i := 147) rfl rfl, List.forall_mem_cons.mpr ⟨mm_t4 (i := 174) rfl rfl, List.forall_mem_cons.mpr ⟨mm_t4 (i := 178) rfl rfl, List.forall_mem_cons.mpr ⟨mm_t4 (i := 182) rfl rfl, List.forall_mem_cons.mpr ⟨mm_t4 (i := 187) rfl rfl, fun _ h => absurd h List.not_mem_nil⟩⟩⟩⟩⟩⟩⟩⟩⟩⟩⟩⟩⟩⟩⟩⟩⟩⟩⟩⟩⟩
set_option maxRecDepth 40000 in
theorem mm_mkk3 : ∀ q ∈ mm_mk3, Cond.methodLink (mm_R 3) q.1 (mm_y q.2) ∈ mm_gw := List.forall_mem_cons.mpr ⟨mm_t4 (i := 155) rfl rfl, List.forall_mem_cons.mpr ⟨mm_t4 (i := 160) rfl rfl, fun _ h => absurd h List.not_mem_nil⟩⟩
set_option maxRecDepth 40000 in
theorem mm_mkk4 : ∀ q ∈ mm_mk4, Cond.methodLink (mm_R 4) q.1 (mm_y q.2) ∈ mm_gw := List.forall_mem_cons.mpr ⟨mm_t3 (i := 216) rfl rfl, List.forall_mem_cons.mpr ⟨mm_t3 (i := 220) rfl rfl, List.forall_mem_cons.mpr ⟨mm_t3 (i := 222) rfl rfl, List.forall_mem_cons.mpr ⟨mm_t3 (i := 223) rfl rfl, List.forall_mem_cons.mpr ⟨mm_t3 (i := 224) rfl rfl, List.forall_mem_cons.mpr ⟨mm_t3 (i := 225) rfl rfl, List.forall_mem_cons.mpr ⟨mm_t3 (i := 229) rfl rfl, List.forall_mem_cons.mpr ⟨mm_t4 (i := 12) rfl rfl, List.forall_mem_cons.mpr ⟨mm_t4 (i := 17) rfl rfl, List.forall_mem_cons.mpr ⟨mm_t4 (i := 22) rfl rfl, List.forall_mem_cons.mpr ⟨mm_t4 (i := 34) rfl rfl, List.forall_mem_cons.mpr ⟨mm_t4 (i := 38) rfl rfl, List.forall_mem_cons.mpr ⟨mm_t4 (i := 26) rfl rfl, List.forall_mem_cons.mpr ⟨mm_t4 (i := 4) rfl rfl, List.forall_mem_cons.mpr ⟨mm_t4 (i := 31) rfl rfl, List.forall_mem_cons.mpr ⟨mm_t4 (i := 8) rfl rfl, List.forall_mem_cons.mpr ⟨mm_t4 (i := 0) rfl rfl, List.forall_mem_cons.mpr ⟨mm_t3 (i := 233) rfl rfl, List.forall_mem_cons.mpr ⟨mm_t3 (i := 238) rfl rfl, fun _ h => absurd h List.not_mem_nil⟩⟩⟩⟩⟩⟩⟩⟩⟩⟩⟩⟩⟩⟩⟩⟩⟩⟩⟩
set_option maxRecDepth 40000 in
theorem mm_mkk5 : ∀ q ∈ mm_mk5, Cond.methodLink (mm_R 5) q.1 (mm_y q.2) ∈ mm_gw := List.forall_mem_cons.mpr ⟨mm_t2 (i := 155) rfl rfl, List.forall_mem_cons.mpr ⟨mm_t5 (i := 31) rfl rfl, List.forall_mem_cons.mpr ⟨mm_t5 (i := 35) rfl rfl, List.forall_mem_cons.mpr ⟨mm_t5 (i := 43) rfl rfl, List.forall_mem_cons.mpr ⟨mm_t5 (i := 44) rfl rfl, List.forall_mem_cons.mpr ⟨mm_t5 (i := 39) rfl rfl, List.forall_mem_cons.mpr ⟨mm_t5 (i := 45) rfl rfl, List.forall_mem_cons.mpr ⟨mm_t5 (i := 50) rfl rfl, List.forall_mem_cons.mpr ⟨mm_t5 (i := 55) rfl rfl, List.forall_mem_cons.mpr ⟨mm_t5 (i := 72) rfl rfl, List.forall_mem_cons.mpr ⟨mm_t5 (i := 73) rfl rfl, List.forall_mem_cons.mpr ⟨mm_t5 (i := 78) rfl rfl, List.forall_mem_cons.mpr ⟨mm_t5 (i := 77) rfl rfl, fun _ h => absurd h List.not_mem_nil⟩⟩⟩⟩⟩⟩⟩⟩⟩⟩⟩⟩⟩
set_option maxRecDepth 40000 in
theorem mm_mkk6 : ∀ q ∈ mm_mk6, Cond.methodLink (mm_R 6) q.1 (mm_y q.2) ∈ mm_gw := List.forall_mem_cons.mpr ⟨mm_t5 (i := 54) rfl rfl, fun _ h => absurd h List.not_mem_nil⟩
set_option maxRecDepth 40000 in
theorem mm_mkk7 : ∀ q ∈ mm_mk7, Cond.methodLink (mm_R 7) q.1 (mm_y q.2) ∈ mm_gw := List.forall_mem_cons.mpr ⟨mm_t3 (i := 204) rfl rfl, fun _ h => absurd h List.not_mem_nil⟩
set_option maxRecDepth 40000 in
theorem mm_mkk8 : ∀ q ∈ mm_mk8, Cond.methodLink (mm_R 8) q.1 (mm_y q.2) ∈ mm_gw := List.forall_mem_cons.mpr ⟨mm_t3 (i := 26) rfl rfl, List.forall_mem_cons.mpr ⟨mm_t3 (i := 33) rfl rfl, List.forall_mem_cons.mpr ⟨mm_t3 (i := 37) rfl rfl, List.forall_mem_cons.mpr ⟨mm_t3 (i := 41) rfl rfl, List.forall_mem_cons.mpr ⟨mm_t3 (i := 54) rfl rfl, List.forall_mem_cons.mpr ⟨mm_t3 (i := 64) rfl rfl, List.forall_mem_cons.mpr ⟨mm_t4 (i := 21) rfl rfl, List.forall_mem_cons.mpr ⟨mm_t3 (i := 119) rfl rfl, List.forall_mem_cons.mpr ⟨mm_t3 (i := 189) rfl rfl, fun _ h => absurd h List.not_mem_nil⟩⟩⟩⟩⟩⟩⟩⟩⟩
set_option maxRecDepth 40000 in
theorem mm_mkk9 : ∀ q ∈ mm_mk9, Cond.methodLink (mm_R 9) q.1 (mm_y q.2) ∈ mm_gw := List.forall_mem_cons.mpr ⟨mm_t1 (i := 194) rfl rfl, List.forall_mem_cons.mpr ⟨mm_t5 (i := 120) rfl rfl, List.forall_mem_cons.mpr ⟨mm_t5 (i := 121) rfl rfl, List.forall_mem_cons.mpr ⟨mm_t5 (i := 122) rfl rfl, fun _ h => absurd h List.not_mem_nil⟩⟩⟩⟩
set_option maxRecDepth 40000 in
theorem mm_mkk10 : ∀ q ∈ mm_mk10, Cond.methodLink (mm_R 10) q.1 (mm_y q.2) ∈ mm_gw := List.forall_mem_cons.mpr ⟨mm_t1 (i := 75) rfl rfl, List.forall_mem_cons.mpr ⟨mm_t3 (i := 161) rfl rfl, fun _ h => absurd h List.not_mem_nil⟩⟩
set_option maxRecDepth 40000 in
theorem mm_mkk11 : ∀ q ∈ mm_mk11, Cond.methodLink (mm_R 11) q.1 (mm_y q.2) ∈ mm_gw := List.forall_mem_cons.mpr ⟨mm_t1 (i := 71) rfl rfl, List.forall_mem_cons.mpr ⟨mm_t3 (i := 18) rfl rfl, List.forall_mem_cons.mpr ⟨mm_t3 (i := 22) rfl rfl, List.forall_mem_cons.mpr ⟨mm_t3 (i := 45) rfl rfl, List.forall_mem_cons.mpr ⟨mm_t3 (i := 185) rfl rfl, List.forall_mem_cons.mpr ⟨mm_t3 (i := 50) rfl rfl, List.forall_mem_cons.mpr ⟨mm_t3 (i := 102) rfl rfl, List.forall_mem_cons.mpr ⟨mm_t3 (i := 106) rfl rfl, List.forall_mem_cons.mpr ⟨mm_t3 (i := 110) rfl rfl, List.forall_mem_cons.mpr ⟨mm_t3 (i := 111) rfl rfl, List.forall_mem_cons.mpr ⟨mm_t3 (i := 120) rfl rfl, List.forall_mem_cons.mpr ⟨mm_t3 (i := 133) rfl rfl, List.forall_mem_cons.mpr ⟨mm_t3 (i := 149) rfl rfl, List.forall_mem_cons.mpr ⟨mm_t3 (i := 165) rfl rfl, List.forall_mem_cons.mpr ⟨mm_t3 (i := 173) rfl rfl, List.forall_mem_cons.mpr ⟨mm_t3 (i := 115) rfl rfl, List.forall_mem_cons.mpr ⟨mm_t3 (i := 124) rfl rfl, List.forall_mem_cons.mpr ⟨mm_t3 (i := 129) rfl rfl, List.forall_mem_cons.mpr ⟨mm_t3 (i := 137) rfl rfl, List.forall_mem_cons.mpr ⟨mm_t3 (i := 145) rfl rfl, List.forall_mem_cons.mpr ⟨mm_t3 (i := 141) rfl rfl, List.forall_mem_cons.mpr ⟨mm_t3 (i := 153) rfl rfl, List.forall_mem_cons.mpr ⟨mm_t3 (i := 157) rfl rfl, List.forall_mem_cons.mpr ⟨mm_t3 (i := 169) rfl rfl, List.forall_mem_cons.mpr ⟨mm_t3 (i := 177) rfl rfl, List.forall_mem_cons.mpr ⟨mm_t3 (i := 181) rfl rfl, fun _ h => absurd h List.not_mem_nil⟩⟩⟩⟩⟩⟩⟩⟩⟩⟩⟩⟩⟩⟩⟩⟩⟩⟩⟩⟩⟩⟩⟩⟩⟩⟩
set_option maxRecDepth 40000 in
theorem mm_mkk12 : ∀ q ∈ mm_mk12, Cond.methodLink (mm_R 12) q.1 (mm_y q.2) ∈ mm_gw := List.forall_mem_cons.mpr ⟨mm_t6 (i := 23) rfl rfl, List.forall_mem_cons.mpr ⟨mm_t6 (i := 43) rfl rfl, List.forall_mem_cons.mpr ⟨mm_t6 (i := 56) rfl rfl, List.forall_mem_cons.mpr ⟨mm_t6 (i := 52) rfl rfl, List.forall_mem_cons.mpr ⟨mm_t6 (i := 78) rfl rfl, List.forall_mem_cons.mpr ⟨mm_t6 (i := 90) rfl rfl, List.forall_mem_cons.mpr ⟨mm_t6 (i := 66) rfl rfl, List.forall_mem_cons.mpr ⟨mm_t6 (i := 94) rfl rfl, List.forall_mem_cons.mpr ⟨mm_t6 (i := 195) rfl rfl, List.forall_mem_cons.mpr ⟨mm_t6 (i := 154) rfl rfl, List.forall_mem_cons.mpr ⟨mm_t6 (i := 86) rfl rfl, List.forall_mem_cons.mpr ⟨mm_t6 (i := 150) rfl rfl, List.forall_mem_cons.mpr ⟨mm_t6 (i := 158) rfl rfl, List.forall_mem_cons.mpr ⟨mm_t6 (i := 145) rfl rfl, List.forall_mem_cons.mpr ⟨mm_t6 (i := 141) rfl rfl, List.forall_mem_cons.mpr ⟨mm_t6 (i := 137) rfl rfl, List.forall_mem_cons.mpr ⟨mm_t6 (i := 179) rfl rfl, List.forall_mem_cons.mpr ⟨mm_t6 (i := 183) rfl rfl, List.forall_mem_cons.mpr ⟨mm_t6 (i := 191) rfl rfl, List.forall_mem_cons.mpr ⟨mm_t6 (i := 198) rfl rfl, List.forall_mem_cons.mpr ⟨mm_t6 (i := 174) rfl rfl, List.forall_mem_cons.mpr ⟨mm_t6 (i := 187) rfl rfl, List.forall_mem_cons.mpr ⟨mm_t6 (i := 106) rfl rfl, List.forall_mem_cons.mpr ⟨mm_t6 (i := 170) rfl rfl, List.forall_mem_cons.mpr ⟨mm_t6 (i := 82) rfl rfl, List.forall_mem_cons.mpr ⟨mm_t6 (i := 101) rfl rfl, List.forall_mem_cons.mpr ⟨mm_t6 (i := 117) rfl rfl, List.forall_mem_cons.mpr ⟨mm_t6 (i := 74) rfl rfl, List.forall_mem_cons.mpr ⟨mm_t6 (i := 97) rfl rfl, List.forall_mem_cons.mpr ⟨mm_t6 (i := 113) rfl rfl, List.forall_mem_cons.mpr ⟨mm_t6 (i := 121) rfl rfl, List.forall_mem_cons.mpr ⟨mm_t6 (i := 125) rfl rfl, List.forall_mem_cons.mpr ⟨mm_t6 (i := 129) rfl rfl, List.forall_mem_cons.mpr ⟨mm_t6 (i := 47) rfl rfl, List.forall_mem_cons.mpr ⟨mm_t6 (i := 70) rfl rfl, List.forall_mem_cons.mpr ⟨mm_t6 (i := 133) rfl rfl, List.forall_mem_cons.mpr ⟨mm_t6 (i := 39) rfl rfl, List.forall_mem_cons.mpr ⟨mm_t6 (i := 35) rfl rfl, List.forall_mem_cons.mpr ⟨mm_t6 (i := 208) rfl rfl, List.forall_mem_cons.mpr ⟨mm_t7 (i := 74) rfl rfl, List.forall_mem_cons.mpr ⟨mm_t7 (i := 78) rfl rfl, List.forall_mem_cons.mpr ⟨mm_t7 (i := 82) rfl rfl, List.forall_mem_cons.mpr ⟨mm_t6 (i := 216) rfl rfl, List.forall_mem_cons.mpr ⟨mm_t6 (i := 224) rfl rfl, List.forall_mem_cons.mpr ⟨mm_t6 (i := 234) rfl rfl, List.forall_mem_cons.mpr ⟨mm_t7 (i := 2) rfl rfl, List.forall_mem_cons.mpr ⟨mm_t7 (i := 10) rfl rfl, List.forall_mem_cons.mpr ⟨mm_t7 (i := 54) rfl rfl, List.forall_mem_cons.mpr ⟨mm_t7 (i := 62) rfl rfl, List.forall_mem_cons.mpr ⟨mm_t7 (i := 34) rfl rfl, List.forall_mem_cons.mpr ⟨mm_t7 (i := 66) rfl rfl, List.forall_mem_cons.mpr ⟨mm_t7 (i := 70) rfl rfl, List.forall_mem_cons.mpr ⟨mm_t7 (i := 42) rfl rfl, List.forall_mem_cons.mpr ⟨mm_t7 (i := 90) rfl rfl, List.forall_mem_cons.mpr ⟨mm_t7 (i := 94) rfl rfl, List.forall_mem_cons.mpr ⟨mm_t7 (i := 50) rfl rfl, List.forall_mem_cons.mpr ⟨mm_t7 (i := 58) rfl rfl, List.forall_mem_cons.mpr ⟨mm_t7 (i := 86) rfl rfl, List.forall_mem_cons.mpr ⟨mm_t7 (i := 38) rfl rfl, List.forall_mem_cons.mpr ⟨mm_t7 (i := 46) rfl rfl, List.forall_mem_cons.mpr ⟨mm_t7 (i := 98) rfl rfl, List.forall_mem_cons.mpr ⟨mm_t7 (i := 22) rfl rfl, List.forall_mem_cons.mpr ⟨mm_t7 (i := 26) rfl rfl, List.forall_mem_cons.mpr ⟨mm_t7 (i := 30) rfl rfl, List.forall_mem_cons.mpr ⟨mm_t7 (i := 106) rfl rfl, List.forall_mem_cons.mpr ⟨mm_t7 (i := 118) rfl rfl, List.forall_mem_cons.mpr ⟨mm_t7 (i := 127) rfl rfl, List.forall_mem_cons.mpr ⟨mm_t7 (i := 131) rfl rfl, List.forall_mem_cons.mpr ⟨mm_t7 (i := 139) rfl rfl, List.forall_mem_cons.mpr ⟨mm_t7 (i := 147) rfl rfl, List.forall_mem_cons.mpr ⟨mm_t7 (i := 156) rfl rfl, List.forall_mem_cons.mpr ⟨mm_t7 (i := 177) rfl rfl, List.forall_mem_cons.mpr ⟨mm_t7 (i := 189) rfl rfl, List.forall_mem_cons.mpr ⟨mm_t7 (i := 185) rfl rfl, List.forall_mem_cons.mpr ⟨mm_t7 (i := 192) rfl rfl, List.forall_mem_cons.mpr ⟨mm_t7 (i := 196) rfl rfl, List.forall_mem_cons.mpr ⟨mm_t7 (i := 181) rfl rfl, List.forall_mem_cons.mpr ⟨mm_t7 (i := 173) rfl rfl, List.forall_mem_cons.mpr ⟨mm_t7 (i := 204) rfl rfl, List.forall_mem_cons.mpr ⟨mm_t7 (i := 228) rfl rfl, fun _ h => absurd h List.not_mem_nil⟩⟩⟩⟩⟩⟩⟩⟩⟩⟩⟩⟩⟩⟩⟩⟩⟩⟩⟩⟩⟩⟩⟩⟩⟩⟩⟩⟩⟩⟩⟩⟩⟩⟩⟩⟩⟩⟩⟩⟩⟩⟩⟩⟩⟩⟩⟩⟩⟩⟩⟩⟩⟩⟩⟩⟩⟩⟩⟩⟩⟩⟩⟩⟩⟩⟩⟩⟩⟩⟩⟩⟩⟩⟩⟩⟩⟩⟩⟩⟩
set_option maxRecDepth 40000 in
theorem mm_mkk13 : ∀ q ∈ mm_mk13, Cond.methodLink (mm_R 13) q.1 (mm_y q.2) ∈ mm_gw := List.forall_mem_cons.mpr ⟨mm_t1 (i := 23) rfl rfl, List.forall_mem_cons.mpr ⟨mm_t5 (i := 133) rfl rfl, List.forall_mem_cons.mpr ⟨mm_t2 (i := 238) rfl rfl, List.forall_mem_cons.mpr ⟨mm_t6 (i := 19) rfl rfl, List.forall_mem_cons.mpr ⟨mm_t3 (i := 6) rfl rfl, List.forall_mem_cons.mpr ⟨mm_t6 (i := 27) rfl rfl, List.forall_mem_cons.mpr ⟨mm_t3 (i := 10) rfl rfl, List.forall_mem_cons.mpr ⟨mm_t6 (i := 204) rfl rfl, List.forall_mem_cons.mpr ⟨mm_t3 (i := 208) rfl rfl, List.forall_mem_cons.mpr ⟨mm_t6 (i := 31) rfl rfl, List.forall_mem_cons.mpr ⟨mm_t4 (i := 39) rfl rfl, List.forall_mem_cons.mpr ⟨mm_t6 (i := 212) rfl rfl, List.forall_mem_cons.mpr ⟨mm_t4 (i := 43) rfl rfl, List.forall_mem_cons.mpr ⟨mm_t6 (i := 220) rfl rfl, List.forall_mem_cons.mpr ⟨mm_t4 (i := 52) rfl rfl, List.forall_mem_cons.mpr ⟨mm_t6 (i := 229) rfl rfl, List.forall_mem_cons.mpr ⟨mm_t4 (i := 64) rfl rfl, List.forall_mem_cons.mpr ⟨mm_t6 (i := 238) rfl rfl, List.forall_mem_cons.mpr ⟨mm_t4 (i := 69) rfl rfl, List.forall_mem_cons.mpr ⟨mm_t7 (i := 6) rfl rfl, List.forall_mem_cons.mpr ⟨mm_t4 (i := 74) rfl rfl, List.forall_mem_cons.mpr ⟨mm_t7 (i := 18) rfl rfl, List.forall_mem_cons.mpr ⟨mm_t4 (i := 189) rfl rfl, List.forall_mem_cons.mpr ⟨mm_t7 (i := 102) rfl rfl, List.forall_mem_cons.mpr ⟨mm_t4 (i := 198) rfl rfl, List.forall_mem_cons.mpr ⟨mm_t7 (i := 110) rfl rfl, List.forall_mem_cons.mpr ⟨mm_t4 (i := 203) rfl rfl, List.forall_mem_cons.mpr ⟨mm_t7 (i := 114) rfl rfl, List.forall_mem_cons.mpr ⟨mm_t4 (i := 211) rfl rfl, List.forall_mem_cons.mpr ⟨mm_t7 (i := 14) rfl rfl, List.forall_mem_cons.mpr ⟨mm_t4 (i := 219) rfl rfl, List.forall_mem_cons.mpr ⟨mm_t7 (i := 122) rfl rfl, List.forall_mem_cons.mpr ⟨mm_t4 (i := 223) rfl rfl, List.forall_mem_cons.mpr ⟨mm_t7 (i := 135) rfl rfl, List.forall_mem_cons.mpr ⟨mm_t4 (i := 227) rfl rfl, List.forall_mem_cons.mpr ⟨mm_t7 (i := 143) rfl rfl, List.forall_mem_cons.mpr ⟨mm_t4 (i := 231) rfl rfl, List.forall_mem_cons.mpr ⟨mm_t7 (i := 151) rfl rfl, List.forall_mem_cons.mpr ⟨mm_t4 (i := 239) rfl rfl, List.forall_mem_cons.mpr ⟨mm_t7 (i := 160) rfl rfl, List.forall_mem_cons.mpr ⟨mm_t5 (i := 15) rfl rfl, List.forall_mem_cons.mpr ⟨mm_t7 (i := 164) rfl rfl, List.forall_mem_cons.mpr ⟨mm_t5 (i := 23) rfl rfl, List.forall_mem_cons.mpr ⟨mm_t7 (i := 169) rfl rfl, List.forall_mem_cons.mpr ⟨mm_t5 (i := 64) rfl rfl, List.forall_mem_cons.mpr ⟨mm_t7 (i := 200) rfl rfl, List.forall_mem_cons.mpr ⟨mm_t5 (i := 7) rfl rfl, List.forall_mem_cons.mpr ⟨mm_t7 (i := 208) rfl rfl, List.forall_mem_cons.mpr ⟨mm_t5 (i := 11) rfl rfl, List.forall_mem_cons.mpr ⟨mm_t7 (i := 213) rfl rfl, List.forall_mem_cons.mpr ⟨mm_t5 (i := 83) rfl rfl, List.forall_mem_cons.mpr ⟨mm_t7 (i := 217) rfl rfl, List.forall_mem_cons.mpr ⟨mm_t5 (i := 87) rfl rfl, List.forall_mem_cons.mpr ⟨mm_t7 (i := 221) rfl rfl, List.forall_mem_cons.mpr ⟨mm_t5 (i := 96) rfl rfl, List.forall_mem_cons.mpr ⟨mm_t7 (i := 236) rfl rfl, List.forall_mem_cons.mpr ⟨mm_t5 (i := 108) rfl rfl, List.forall_mem_cons.mpr ⟨mm_t8 (i := 0) rfl rfl, List.forall_mem_cons.mpr ⟨mm_t5 (i := 127) rfl rfl, List.forall_mem_cons.mpr ⟨mm_t8 (i := 4) rfl rfl, fun _ h => absurd h List.not_mem_nil⟩⟩⟩⟩⟩⟩⟩⟩⟩⟩⟩⟩⟩⟩⟩⟩⟩⟩⟩⟩⟩⟩⟩⟩⟩⟩⟩⟩⟩⟩⟩⟩⟩⟩⟩⟩⟩⟩⟩⟩⟩⟩⟩⟩⟩⟩⟩⟩⟩⟩⟩⟩⟩⟩⟩⟩⟩⟩⟩⟩
theorem mm_mk_ok : ∀ (o : Nat) (q : Nat × Nat), q ∈ mm_mk o → Cond.methodLink (mm_R o) q.1 (mm_y q.2) ∈ mm_gw
  | 0 => mm_mkk0
  | 1 => mm_mkk1
  | 2 => mm_mkk2
  | 3 => mm_mkk3
  | 4 => mm_mkk4
  | 5 => mm_mkk5
  | 6 => mm_mkk6
  | 7 => mm_mkk7
  | 8 => mm_mkk8
  | 9 => mm_mkk9
  | 10 => mm_mkk10
  | 11 => mm_mkk11
  | 12 => mm_mkk12
  | 13 => mm_mkk13
  | _ + 14 => fun _ h => absurd h List.not_mem_nil
def mm_xn (a : Nat) : MethodName := match a with
  | 9000 => Lib.objectInit
  | 9001 => arraycopyName
  | 9002 => ⟨"java/lang/Math", "max", "(II)I"⟩
  | 9003 => ⟨"java/lang/Math", "min", "(II)I"⟩
  | 9004 => ⟨"java/lang/Math", "max", "(JJ)J"⟩
  | _ => ⟨"java/lang/Math", "min", "(JJ)J"⟩
/-- links to Object.<init> (9000), System.arraycopy (9001), Math.max, min (ints: 9002, 9003; longs: 9004, 9005) -/
def mm_xl0 : List (Nat × Nat) := [(3, 9000)]
def mm_xl1 : List (Nat × Nat) := [(3, 9000), (33, 9003)]
def mm_xl2 : List (Nat × Nat) := [(3, 9000)]
def mm_xl3 : List (Nat × Nat) := [(3, 9000), (41, 9005), (47, 9004), (50, 9002)]
def mm_xl4 : List (Nat × Nat) := [(3, 9000)]
def mm_xl5 : List (Nat × Nat) := [(3, 9000), (132, 9002)]
def mm_xl6 : List (Nat × Nat) := [(3, 9000), (25, 9001), (31, 9002)]
def mm_xl7 : List (Nat × Nat) := [(3, 9000), (49, 9001)]
def mm_xl8 : List (Nat × Nat) := [(3, 9000), (34, 9002)]
def mm_xl9 : List (Nat × Nat) := [(3, 9000)]
def mm_xl10 : List (Nat × Nat) := [(3, 9000), (55, 9001)]
def mm_xl11 : List (Nat × Nat) := [(3, 9000)]
def mm_xl12 : List (Nat × Nat) := [(1, 9000)]
def mm_xl13 : List (Nat × Nat) := []
def mm_xl (o : Nat) : List (Nat × Nat) := match o with
  | 0 => mm_xl0
  | 1 => mm_xl1
  | 2 => mm_xl2
  | 3 => mm_xl3
  | 4 => mm_xl4
  | 5 => mm_xl5
  | 6 => mm_xl6
  | 7 => mm_xl7
  | 8 => mm_xl8
  | 9 => mm_xl9
  | 10 => mm_xl10
  | 11 => mm_xl11
  | 12 => mm_xl12
  | 13 => mm_xl13
  | _ => []
set_option maxRecDepth 40000 in
theorem mm_xlk0 : ∀ q ∈ mm_xl0, Cond.methodLink (mm_R 0) q.1 (mm_xn q.2) ∈ mm_gw := List.forall_mem_cons.mpr ⟨mm_t1 (i := 26) rfl rfl, fun _ h => absurd h List.not_mem_nil⟩
set_option maxRecDepth 40000 in
theorem mm_xlk1 : ∀ q ∈ mm_xl1, Cond.methodLink (mm_R 1) q.1 (mm_xn q.2) ∈ mm_gw := List.forall_mem_cons.mpr ⟨mm_t2 (i := 80) rfl rfl, List.forall_mem_cons.mpr ⟨mm_t4 (i := 95) rfl rfl, fun _ h => absurd h List.not_mem_nil⟩⟩
set_option maxRecDepth 40000 in
theorem mm_xlk2 : ∀ q ∈ mm_xl2, Cond.methodLink (mm_R 2) q.1 (mm_xn q.2) ∈ mm_gw := List.forall_mem_cons.mpr ⟨mm_t2 (i := 100) rfl rfl, fun _ h => absurd h List.not_mem_nil⟩
set_option maxRecDepth 40000 in
theorem mm_xlk3 : ∀ q ∈ mm_xl3, Cond.methodLink (mm_R 3) q.1 (mm_xn q.2) ∈ mm_gw := List.forall_mem_cons.mpr ⟨mm_t1 (i := 151) rfl rfl, List.forall_mem_cons.mpr ⟨mm_t4 (i := 164) rfl rfl, List.forall_mem_cons.mpr ⟨mm_t4 (i := 167) rfl rfl, List.forall_mem_cons.mpr ⟨mm_t4 (i := 159) rfl rfl, fun _ h => absurd h List.not_mem_nil⟩⟩⟩⟩
set_option maxRecDepth 40000 in
theorem mm_xlk4 : ∀ q ∈ mm_xl4, Cond.methodLink (mm_R 4) q.1 (mm_xn q.2) ∈ mm_gw := List.forall_mem_cons.mpr ⟨mm_t1 (i := 145) rfl rfl, fun _ h => absurd h List.not_mem_nil⟩
set_option maxRecDepth 40000 in
theorem mm_xlk5 : ∀ q ∈ mm_xl5, Cond.methodLink (mm_R 5) q.1 (mm_xn q.2) ∈ mm_gw := List.forall_mem_cons.mpr ⟨mm_t2 (i := 153) rfl rfl, List.forall_mem_cons.mpr ⟨mm_t5 (i := 82) rfl rfl, fun _ h => absurd h List.not_mem_nil⟩⟩
set_option maxRecDepth 40000 in
theorem mm_xlk6 : ∀ q ∈ mm_xl6, Cond.methodLink (mm_R 6) q.1 (mm_xn q.2) ∈ mm_gw := List.forall_mem_cons.mpr ⟨mm_t2 (i := 33) rfl rfl, List.forall_mem_cons.mpr ⟨mm_t5 (i := 126) rfl rfl, List.forall_mem_cons.mpr ⟨mm_t5 (i := 49) rfl rfl, fun _ h => absurd h List.not_mem_nil⟩⟩⟩
set_option maxRecDepth 40000 in
theorem mm_xlk7 : ∀ q ∈ mm_xl7, Cond.methodLink (mm_R 7) q.1 (mm_xn q.2) ∈ mm_gw := List.forall_mem_cons.mpr ⟨mm_t1 (i := 200) rfl rfl, List.forall_mem_cons.mpr ⟨mm_t4 (i := 94) rfl rfl, fun _ h => absurd h List.not_mem_nil⟩⟩
set_option maxRecDepth 40000 in
theorem mm_xlk8 : ∀ q ∈ mm_xl8, Cond.methodLink (mm_R 8) q.1 (mm_xn q.2) ∈ mm_gw := List.forall_mem_cons.mpr ⟨mm_t1 (i := 34) rfl rfl, List.forall_mem_cons.mpr ⟨mm_t3 (i := 30) rfl rfl, fun _ h => absurd h List.not_mem_nil⟩⟩
set_option maxRecDepth 40000 in
theorem mm_xlk9 : ∀ q ∈ mm_xl9, Cond.methodLink (mm_R 9) q.1 (mm_xn q.2) ∈ mm_gw := List.forall_mem_cons.mpr ⟨mm_t1 (i := 192) rfl rfl, fun _ h => absurd h List.not_mem_nil⟩
set_option maxRecDepth 40000 in
theorem mm_xlk10 : ∀ q ∈ mm_xl10, Cond.methodLink (mm_R 10) q.1 (mm_xn q.2) ∈ mm_gw := List.forall_mem_cons.mpr ⟨mm_t1 (i := 74) rfl rfl, List.forall_mem_cons.mpr ⟨mm_t3 (i := 197) rfl rfl, fun _ h => absurd h List.not_mem_nil⟩⟩
set_option maxRecDepth 40000 in
theorem mm_xlk11 : ∀ q ∈ mm_xl11, Cond.methodLink (mm_R 11) q.1 (mm_xn q.2) ∈ mm_gw := List.forall_mem_cons.mpr ⟨mm_t1 (i := 68) rfl rfl, fun _ h => absurd h List.not_mem_nil⟩
set_option maxRecDepth 40000 in
theorem mm_xlk12 : ∀ q ∈ mm_xl12, Cond.methodLink (mm_R 12) q.1 (mm_xn q.2) ∈ mm_gw := List.forall_mem_cons.mpr ⟨mm_t5 (i := 136) rfl rfl, fun _ h => absurd h List.not_mem_nil⟩
set_option maxRecDepth 40000 in
theorem mm_xlk13 : ∀ q ∈ mm_xl13, Cond.methodLink (mm_R 13) q.1 (mm_xn q.2) ∈ mm_gw := fun _ h => absurd h List.not_mem_nil
theorem mm_xl_ok : ∀ (o : Nat) (q : Nat × Nat), q ∈ mm_xl o → Cond.methodLink (mm_R o) q.1 (mm_xn q.2) ∈ mm_gw
  | 0 => mm_xlk0
  | 1 => mm_xlk1
  | 2 => mm_xlk2
  | 3 => mm_xlk3
  | 4 => mm_xlk4
  | 5 => mm_xlk5
  | 6 => mm_xlk6
  | 7 => mm_xlk7
  | 8 => mm_xlk8
  | 9 => mm_xlk9
  | 10 => mm_xlk10
  | 11 => mm_xlk11
  | 12 => mm_xlk12
  | 13 => mm_xlk13
  | _ + 14 => fun _ h => absurd h List.not_mem_nil
/-- class links: (index, class) -/
def mm_cl0 : List (Nat × Nat) := [(9, 8), (16, 11), (25, 4), (32, 3), (38, 9), (49, 1), (56, 2), (63, 5), (70, 10), (77, 7)]
def mm_cl1 : List (Nat × Nat) := [(9, 7)]
def mm_cl2 : List (Nat × Nat) := [(9, 7), (22, 10)]
def mm_cl3 : List (Nat × Nat) := []
def mm_cl4 : List (Nat × Nat) := [(15, 3)]
def mm_cl5 : List (Nat × Nat) := [(22, 10), (29, 7)]
def mm_cl6 : List (Nat × Nat) := []
def mm_cl7 : List (Nat × Nat) := []
def mm_cl8 : List (Nat × Nat) := []
def mm_cl9 : List (Nat × Nat) := [(9, 10), (18, 7), (25, 6)]
def mm_cl10 : List (Nat × Nat) := []
def mm_cl11 : List (Nat × Nat) := [(9, 10)]
def mm_cl12 : List (Nat × Nat) := []
def mm_cl13 : List (Nat × Nat) := [(7, 0), (10, 12)]
def mm_cl (o : Nat) : List (Nat × Nat) := match o with
  | 0 => mm_cl0
  | 1 => mm_cl1
  | 2 => mm_cl2
  | 3 => mm_cl3
  | 4 => mm_cl4
  | 5 => mm_cl5
  | 6 => mm_cl6
  | 7 => mm_cl7
  | 8 => mm_cl8
  | 9 => mm_cl9
  | 10 => mm_cl10
  | 11 => mm_cl11
  | 12 => mm_cl12
  | 13 => mm_cl13
  | _ => []
set_option maxRecDepth 40000 in
theorem mm_clk0 : ∀ q ∈ mm_cl0, Cond.classLink (mm_R 0) q.1 (mm_R q.2) ∈ mm_gw := List.forall_mem_cons.mpr ⟨mm_t1 (i := 29) rfl rfl, List.forall_mem_cons.mpr ⟨mm_t1 (i := 63) rfl rfl, List.forall_mem_cons.mpr ⟨mm_t1 (i := 140) rfl rfl, List.forall_mem_cons.mpr ⟨mm_t1 (i := 185) rfl rfl, List.forall_mem_cons.mpr ⟨mm_t1 (i := 187) rfl rfl, List.forall_mem_cons.mpr ⟨mm_t2 (i := 75) rfl rfl, List.forall_mem_cons.mpr ⟨mm_t2 (i := 95) rfl rfl, List.forall_mem_cons.mpr ⟨mm_t2 (i := 148) rfl rfl, List.forall_mem_cons.mpr ⟨mm_t2 (i := 196) rfl rfl, List.forall_mem_cons.mpr ⟨mm_t2 (i := 198) rfl rfl, fun _ h => absurd h List.not_mem_nil⟩⟩⟩⟩⟩⟩⟩⟩⟩⟩
set_option maxRecDepth 40000 in
theorem mm_clk1 : ∀ q ∈ mm_cl1, Cond.classLink (mm_R 1) q.1 (mm_R q.2) ∈ mm_gw := List.forall_mem_cons.mpr ⟨mm_t2 (i := 81) rfl rfl, fun _ h => absurd h List.not_mem_nil⟩
set_option maxRecDepth 40000 in
theorem mm_clk2 : ∀ q ∈ mm_cl2, Cond.classLink (mm_R 2) q.1 (mm_R q.2) ∈ mm_gw := List.forall_mem_cons.mpr ⟨mm_t2 (i := 101) rfl rfl, List.forall_mem_cons.mpr ⟨mm_t2 (i := 103) rfl rfl, fun _ h => absurd h List.not_mem_nil⟩⟩
set_option maxRecDepth 40000 in
theorem mm_clk3 : ∀ q ∈ mm_cl3, Cond.classLink (mm_R 3) q.1 (mm_R q.2) ∈ mm_gw := fun _ h => absurd h List.not_mem_nil
set_option maxRecDepth 40000 in
theorem mm_clk4 : ∀ q ∈ mm_cl4, Cond.classLink (mm_R 4) q.1 (mm_R q.2) ∈ mm_gw := List.forall_mem_cons.mpr ⟨mm_t1 (i := 146) rfl rfl, fun _ h => absurd h List.not_mem_nil⟩
set_option maxRecDepth 40000 in
theorem mm_clk5 : ∀ q ∈ mm_cl5, Cond.classLink (mm_R 5) q.1 (mm_R q.2) ∈ mm_gw := List.forall_mem_cons.mpr ⟨mm_t2 (i := 154) rfl rfl, List.forall_mem_cons.mpr ⟨mm_t2 (i := 156) rfl rfl, fun _ h => absurd h List.not_mem_nil⟩⟩
set_option maxRecDepth 40000 in
theorem mm_clk6 : ∀ q ∈ mm_cl6, Cond.classLink (mm_R 6) q.1 (mm_R q.2) ∈ mm_gw := fun _ h => absurd h List.not_mem_nil
set_option maxRecDepth 40000 in
theorem mm_clk7 : ∀ q ∈ mm_cl7, Cond.classLink (mm_R 7) q.1 (mm_R q.2) ∈ mm_gw := fun _ h => absurd h List.not_mem_nil
set_option maxRecDepth 40000 in
theorem mm_clk8 : ∀ q ∈ mm_cl8, Cond.classLink (mm_R 8) q.1 (mm_R q.2) ∈ mm_gw := fun _ h => absurd h List.not_mem_nil
set_option maxRecDepth 40000 in
theorem mm_clk9 : ∀ q ∈ mm_cl9, Cond.classLink (mm_R 9) q.1 (mm_R q.2) ∈ mm_gw := List.forall_mem_cons.mpr ⟨mm_t1 (i := 193) rfl rfl, List.forall_mem_cons.mpr ⟨mm_t1 (i := 195) rfl rfl, List.forall_mem_cons.mpr ⟨mm_t2 (i := 28) rfl rfl, fun _ h => absurd h List.not_mem_nil⟩⟩⟩
set_option maxRecDepth 40000 in
theorem mm_clk10 : ∀ q ∈ mm_cl10, Cond.classLink (mm_R 10) q.1 (mm_R q.2) ∈ mm_gw := fun _ h => absurd h List.not_mem_nil
set_option maxRecDepth 40000 in
theorem mm_clk11 : ∀ q ∈ mm_cl11, Cond.classLink (mm_R 11) q.1 (mm_R q.2) ∈ mm_gw := List.forall_mem_cons.mpr ⟨mm_t1 (i := 69) rfl rfl, fun _ h => absurd h List.not_mem_nil⟩
set_option maxRecDepth 40000 in
theorem mm_clk12 : ∀ q ∈ mm_cl12, Cond.classLink (mm_R 12) q.1 (mm_R q.2) ∈ mm_gw := fun _ h => absurd h List.not_mem_nil
set_option maxRecDepth 40000 in
theorem mm_clk13 : ∀ q ∈ mm_cl13, Cond.classLink (mm_R 13) q.1 (mm_R q.2) ∈ mm_gw := List.forall_mem_cons.mpr ⟨mm_t1 (i := 21) rfl rfl, List.forall_mem_cons.mpr ⟨mm_t5 (i := 131) rfl rfl, fun _ h => absurd h List.not_mem_nil⟩⟩
theorem mm_cl_ok : ∀ (o : Nat) (q : Nat × Nat), q ∈ mm_cl o → Cond.classLink (mm_R o) q.1 (mm_R q.2) ∈ mm_gw
  | 0 => mm_clk0
  | 1 => mm_clk1
  | 2 => mm_clk2
  | 3 => mm_clk3
  | 4 => mm_clk4
  | 5 => mm_clk5
  | 6 => mm_clk6
  | 7 => mm_clk7
  | 8 => mm_clk8
  | 9 => mm_clk9
  | 10 => mm_clk10
  | 11 => mm_clk11
  | 12 => mm_clk12
  | 13 => mm_clk13
  | _ + 14 => fun _ h => absurd h List.not_mem_nil
/-- long constants: (index, value) -/
def mm_kl0 : List (Nat × Nat) := [(277, 100), (279, 1103515245), (281, 12345), (283, 2147483648), (285, 65536)]
def mm_kl1 : List (Nat × Nat) := []
def mm_kl2 : List (Nat × Nat) := []
def mm_kl3 : List (Nat × Nat) := [(39, 9)]
def mm_kl4 : List (Nat × Nat) := []
def mm_kl5 : List (Nat × Nat) := []
def mm_kl6 : List (Nat × Nat) := []
def mm_kl7 : List (Nat × Nat) := []
def mm_kl8 : List (Nat × Nat) := []
def mm_kl9 : List (Nat × Nat) := []
def mm_kl10 : List (Nat × Nat) := []
def mm_kl11 : List (Nat × Nat) := []
def mm_kl12 : List (Nat × Nat) := [(119, 444300621413), (121, 1818324581), (123, 1667591276), (125, 2036687218), (127, 6383461), (129, 426953501796), (131, 129117192284516), (133, 1885432178), (135, 418363302244), (137, 108187682958948), (139, 439905906532), (141, 112568616904046), (183, 7237492), (203, 6385252), (205, 28530), (207, 26982), (219, 482854660462), (221, 126943688025203), (229, 2036429412), (240, 1919905652), (245, 448377484921), (256, 26479), (304, 7), (306, 3), (340, 9), (392, 200), (406, 2), (411, 99), (440, 50), (449, 1103515245), (451, 12345), (453, 2147483648), (455, 65536), (457, 10), (459, 60), (461, 100)]
def mm_kl13 : List (Nat × Nat) := []
def mm_kl (o : Nat) : List (Nat × Nat) := match o with
  | 0 => mm_kl0
  | 1 => mm_kl1
  | 2 => mm_kl2
  | 3 => mm_kl3
  | 4 => mm_kl4
  | 5 => mm_kl5
  | 6 => mm_kl6
  | 7 => mm_kl7
  | 8 => mm_kl8
  | 9 => mm_kl9
  | 10 => mm_kl10
  | 11 => mm_kl11
  | 12 => mm_kl12
  | 13 => mm_kl13
  | _ => []
set_option maxRecDepth 40000 in
theorem mm_klk0 : ∀ q ∈ mm_kl0, Cond.constantLong (mm_R 0) q.1 (Int64.ofNat q.2) ∈ mm_gw := List.forall_mem_cons.mpr ⟨mm_t5 (i := 91) rfl rfl, List.forall_mem_cons.mpr ⟨mm_t5 (i := 92) rfl rfl, List.forall_mem_cons.mpr ⟨mm_t5 (i := 93) rfl rfl, List.forall_mem_cons.mpr ⟨mm_t5 (i := 94) rfl rfl, List.forall_mem_cons.mpr ⟨mm_t5 (i := 95) rfl rfl, fun _ h => absurd h List.not_mem_nil⟩⟩⟩⟩⟩
set_option maxRecDepth 40000 in
theorem mm_klk1 : ∀ q ∈ mm_kl1, Cond.constantLong (mm_R 1) q.1 (Int64.ofNat q.2) ∈ mm_gw := fun _ h => absurd h List.not_mem_nil
set_option maxRecDepth 40000 in
theorem mm_klk2 : ∀ q ∈ mm_kl2, Cond.constantLong (mm_R 2) q.1 (Int64.ofNat q.2) ∈ mm_gw := fun _ h => absurd h List.not_mem_nil
set_option maxRecDepth 40000 in
theorem mm_klk3 : ∀ q ∈ mm_kl3, Cond.constantLong (mm_R 3) q.1 (Int64.ofNat q.2) ∈ mm_gw := List.forall_mem_cons.mpr ⟨mm_t4 (i := 163) rfl rfl, fun _ h => absurd h List.not_mem_nil⟩
set_option maxRecDepth 40000 in
theorem mm_klk4 : ∀ q ∈ mm_kl4, Cond.constantLong (mm_R 4) q.1 (Int64.ofNat q.2) ∈ mm_gw := fun _ h => absurd h List.not_mem_nil
set_option maxRecDepth 40000 in
theorem mm_klk5 : ∀ q ∈ mm_kl5, Cond.constantLong (mm_R 5) q.1 (Int64.ofNat q.2) ∈ mm_gw := fun _ h => absurd h List.not_mem_nil
set_option maxRecDepth 40000 in
theorem mm_klk6 : ∀ q ∈ mm_kl6, Cond.constantLong (mm_R 6) q.1 (Int64.ofNat q.2) ∈ mm_gw := fun _ h => absurd h List.not_mem_nil
set_option maxRecDepth 40000 in
theorem mm_klk7 : ∀ q ∈ mm_kl7, Cond.constantLong (mm_R 7) q.1 (Int64.ofNat q.2) ∈ mm_gw := fun _ h => absurd h List.not_mem_nil
set_option maxRecDepth 40000 in
theorem mm_klk8 : ∀ q ∈ mm_kl8, Cond.constantLong (mm_R 8) q.1 (Int64.ofNat q.2) ∈ mm_gw := fun _ h => absurd h List.not_mem_nil
set_option maxRecDepth 40000 in
theorem mm_klk9 : ∀ q ∈ mm_kl9, Cond.constantLong (mm_R 9) q.1 (Int64.ofNat q.2) ∈ mm_gw := fun _ h => absurd h List.not_mem_nil
set_option maxRecDepth 40000 in
theorem mm_klk10 : ∀ q ∈ mm_kl10, Cond.constantLong (mm_R 10) q.1 (Int64.ofNat q.2) ∈ mm_gw := fun _ h => absurd h List.not_mem_nil
set_option maxRecDepth 40000 in
theorem mm_klk11 : ∀ q ∈ mm_kl11, Cond.constantLong (mm_R 11) q.1 (Int64.ofNat q.2) ∈ mm_gw := fun _ h => absurd h List.not_mem_nil
set_option maxRecDepth 40000 in
theorem mm_klk12 : ∀ q ∈ mm_kl12, Cond.constantLong (mm_R 12) q.1 (Int64.ofNat q.2) ∈ mm_gw := List.forall_mem_cons.mpr ⟨mm_t6 (i := 60) rfl rfl, List.forall_mem_cons.mpr ⟨mm_t6 (i := 162) rfl rfl, List.forall_mem_cons.mpr ⟨mm_t6 (i := 163) rfl rfl, List.forall_mem_cons.mpr ⟨mm_t6 (i := 164) rfl rfl, List.forall_mem_cons.mpr ⟨mm_t6 (i := 165) rfl rfl, List.forall_mem_cons.mpr ⟨mm_t6 (i := 110) rfl rfl, List.forall_mem_cons.mpr ⟨mm_t6 (i := 111) rfl rfl, List.forall_mem_cons.mpr ⟨mm_t6 (i := 61) rfl rfl, List.forall_mem_cons.mpr ⟨mm_t6 (i := 166) rfl rfl, List.forall_mem_cons.mpr ⟨mm_t6 (i := 167) rfl rfl, List.forall_mem_cons.mpr ⟨mm_t6 (i := 64) rfl rfl, List.forall_mem_cons.mpr ⟨mm_t6 (i := 168) rfl rfl, List.forall_mem_cons.mpr ⟨mm_t6 (i := 178) rfl rfl, List.forall_mem_cons.mpr ⟨mm_t6 (i := 202) rfl rfl, List.forall_mem_cons.mpr ⟨mm_t6 (i := 203) rfl rfl, List.forall_mem_cons.mpr ⟨mm_t6 (i := 169) rfl rfl, List.forall_mem_cons.mpr ⟨mm_t6 (i := 105) rfl rfl, List.forall_mem_cons.mpr ⟨mm_t6 (i := 112) rfl rfl, List.forall_mem_cons.mpr ⟨mm_t6 (i := 51) rfl rfl, List.forall_mem_cons.mpr ⟨mm_t6 (i := 62) rfl rfl, List.forall_mem_cons.mpr ⟨mm_t6 (i := 63) rfl rfl, List.forall_mem_cons.mpr ⟨mm_t6 (i := 65) rfl rfl, List.forall_mem_cons.mpr ⟨mm_t6 (i := 228) rfl rfl, List.forall_mem_cons.mpr ⟨mm_t6 (i := 233) rfl rfl, List.forall_mem_cons.mpr ⟨mm_t7 (i := 85) rfl rfl, List.forall_mem_cons.mpr ⟨mm_t7 (i := 126) rfl rfl, List.forall_mem_cons.mpr ⟨mm_t7 (i := 155) rfl rfl, List.forall_mem_cons.mpr ⟨mm_t7 (i := 168) rfl rfl, List.forall_mem_cons.mpr ⟨mm_t7 (i := 212) rfl rfl, List.forall_mem_cons.mpr ⟨mm_t7 (i := 232) rfl rfl, List.forall_mem_cons.mpr ⟨mm_t7 (i := 233) rfl rfl, List.forall_mem_cons.mpr ⟨mm_t7 (i := 234) rfl rfl, List.forall_mem_cons.mpr ⟨mm_t7 (i := 235) rfl rfl, List.forall_mem_cons.mpr ⟨mm_t7 (i := 225) rfl rfl, List.forall_mem_cons.mpr ⟨mm_t7 (i := 226) rfl rfl, List.forall_mem_cons.mpr ⟨mm_t7 (i := 227) rfl rfl, fun _ h => absurd h List.not_mem_nil⟩⟩⟩⟩⟩⟩⟩⟩⟩⟩⟩⟩⟩⟩⟩⟩⟩⟩⟩⟩⟩⟩⟩⟩⟩⟩⟩⟩⟩⟩⟩⟩⟩⟩⟩⟩
set_option maxRecDepth 40000 in
theorem mm_klk13 : ∀ q ∈ mm_kl13, Cond.constantLong (mm_R 13) q.1 (Int64.ofNat q.2) ∈ mm_gw := fun _ h => absurd h List.not_mem_nil
theorem mm_kl_ok : ∀ (o : Nat) (q : Nat × Nat), q ∈ mm_kl o → Cond.constantLong (mm_R o) q.1 (Int64.ofNat q.2) ∈ mm_gw
  | 0 => mm_klk0
  | 1 => mm_klk1
  | 2 => mm_klk2
  | 3 => mm_klk3
  | 4 => mm_klk4
  | 5 => mm_klk5
  | 6 => mm_klk6
  | 7 => mm_klk7
  | 8 => mm_klk8
  | 9 => mm_klk9
  | 10 => mm_klk10
  | 11 => mm_klk11
  | 12 => mm_klk12
  | 13 => mm_klk13
  | _ + 14 => fun _ h => absurd h List.not_mem_nil
/-- int constants: (index, 100 + value) -/
def mm_ki0 : List (Nat × Nat) := []
def mm_ki1 : List (Nat × Nat) := []
def mm_ki2 : List (Nat × Nat) := []
def mm_ki3 : List (Nat × Nat) := []
def mm_ki4 : List (Nat × Nat) := [(104, 100099)]
def mm_ki5 : List (Nat × Nat) := []
def mm_ki6 : List (Nat × Nat) := []
def mm_ki7 : List (Nat × Nat) := []
def mm_ki8 : List (Nat × Nat) := []
def mm_ki9 : List (Nat × Nat) := []
def mm_ki10 : List (Nat × Nat) := []
def mm_ki11 : List (Nat × Nat) := []
def mm_ki12 : List (Nat × Nat) := [(163, 100099)]
def mm_ki13 : List (Nat × Nat) := []
def mm_ki (o : Nat) : List (Nat × Nat) := match o with
  | 0 => mm_ki0
  | 1 => mm_ki1
  | 2 => mm_ki2
  | 3 => mm_ki3
  | 4 => mm_ki4
  | 5 => mm_ki5
  | 6 => mm_ki6
  | 7 => mm_ki7
  | 8 => mm_ki8
  | 9 => mm_ki9
  | 10 => mm_ki10
  | 11 => mm_ki11
  | 12 => mm_ki12
  | 13 => mm_ki13
  | _ => []
set_option maxRecDepth 40000 in
theorem mm_kik0 : ∀ q ∈ mm_ki0, Cond.constant (mm_R 0) q.1 (Int32.ofNat (q.2 - 100)) ∈ mm_gw := fun _ h => absurd h List.not_mem_nil
set_option maxRecDepth 40000 in
theorem mm_kik1 : ∀ q ∈ mm_ki1, Cond.constant (mm_R 1) q.1 (Int32.ofNat (q.2 - 100)) ∈ mm_gw := fun _ h => absurd h List.not_mem_nil
set_option maxRecDepth 40000 in
theorem mm_kik2 : ∀ q ∈ mm_ki2, Cond.constant (mm_R 2) q.1 (Int32.ofNat (q.2 - 100)) ∈ mm_gw := fun _ h => absurd h List.not_mem_nil
set_option maxRecDepth 40000 in
theorem mm_kik3 : ∀ q ∈ mm_ki3, Cond.constant (mm_R 3) q.1 (Int32.ofNat (q.2 - 100)) ∈ mm_gw := fun _ h => absurd h List.not_mem_nil
set_option maxRecDepth 40000 in
theorem mm_kik4 : ∀ q ∈ mm_ki4, Cond.constant (mm_R 4) q.1 (Int32.ofNat (q.2 - 100)) ∈ mm_gw := List.forall_mem_cons.mpr ⟨mm_t3 (i := 237) rfl rfl, fun _ h => absurd h List.not_mem_nil⟩
set_option maxRecDepth 40000 in
theorem mm_kik5 : ∀ q ∈ mm_ki5, Cond.constant (mm_R 5) q.1 (Int32.ofNat (q.2 - 100)) ∈ mm_gw := fun _ h => absurd h List.not_mem_nil
set_option maxRecDepth 40000 in
theorem mm_kik6 : ∀ q ∈ mm_ki6, Cond.constant (mm_R 6) q.1 (Int32.ofNat (q.2 - 100)) ∈ mm_gw := fun _ h => absurd h List.not_mem_nil
set_option maxRecDepth 40000 in
theorem mm_kik7 : ∀ q ∈ mm_ki7, Cond.constant (mm_R 7) q.1 (Int32.ofNat (q.2 - 100)) ∈ mm_gw := fun _ h => absurd h List.not_mem_nil
set_option maxRecDepth 40000 in
theorem mm_kik8 : ∀ q ∈ mm_ki8, Cond.constant (mm_R 8) q.1 (Int32.ofNat (q.2 - 100)) ∈ mm_gw := fun _ h => absurd h List.not_mem_nil
set_option maxRecDepth 40000 in
theorem mm_kik9 : ∀ q ∈ mm_ki9, Cond.constant (mm_R 9) q.1 (Int32.ofNat (q.2 - 100)) ∈ mm_gw := fun _ h => absurd h List.not_mem_nil
set_option maxRecDepth 40000 in
theorem mm_kik10 : ∀ q ∈ mm_ki10, Cond.constant (mm_R 10) q.1 (Int32.ofNat (q.2 - 100)) ∈ mm_gw := fun _ h => absurd h List.not_mem_nil
set_option maxRecDepth 40000 in
theorem mm_kik11 : ∀ q ∈ mm_ki11, Cond.constant (mm_R 11) q.1 (Int32.ofNat (q.2 - 100)) ∈ mm_gw := fun _ h => absurd h List.not_mem_nil
set_option maxRecDepth 40000 in
theorem mm_kik12 : ∀ q ∈ mm_ki12, Cond.constant (mm_R 12) q.1 (Int32.ofNat (q.2 - 100)) ∈ mm_gw := List.forall_mem_cons.mpr ⟨mm_t6 (i := 149) rfl rfl, fun _ h => absurd h List.not_mem_nil⟩
set_option maxRecDepth 40000 in
theorem mm_kik13 : ∀ q ∈ mm_ki13, Cond.constant (mm_R 13) q.1 (Int32.ofNat (q.2 - 100)) ∈ mm_gw := fun _ h => absurd h List.not_mem_nil
theorem mm_ki_ok : ∀ (o : Nat) (q : Nat × Nat), q ∈ mm_ki o → Cond.constant (mm_R o) q.1 (Int32.ofNat (q.2 - 100)) ∈ mm_gw
  | 0 => mm_kik0
  | 1 => mm_kik1
  | 2 => mm_kik2
  | 3 => mm_kik3
  | 4 => mm_kik4
  | 5 => mm_kik5
  | 6 => mm_kik6
  | 7 => mm_kik7
  | 8 => mm_kik8
  | 9 => mm_kik9
  | 10 => mm_kik10
  | 11 => mm_kik11
  | 12 => mm_kik12
  | 13 => mm_kik13
  | _ + 14 => fun _ h => absurd h List.not_mem_nil
def mm_tx : List String := ["yard grave pair root heavy flood", "plain child unpaid stands", "go", "grave lane cell year age child unpaid pair ahead behind flood fallen", "if", "not", "and", "or"]
/-- String constants: (index, number); they do not stay good: carried apart -/
def mm_ks0 : List (Nat × Nat) := []
def mm_ks1 : List (Nat × Nat) := []
def mm_ks2 : List (Nat × Nat) := []
def mm_ks3 : List (Nat × Nat) := []
def mm_ks4 : List (Nat × Nat) := [(34, 2), (109, 3), (56, 4), (85, 5), (78, 6), (83, 7)]
def mm_ks5 : List (Nat × Nat) := []
def mm_ks6 : List (Nat × Nat) := []
def mm_ks7 : List (Nat × Nat) := []
def mm_ks8 : List (Nat × Nat) := []
def mm_ks9 : List (Nat × Nat) := []
def mm_ks10 : List (Nat × Nat) := []
def mm_ks11 : List (Nat × Nat) := [(42, 0), (99, 1)]
def mm_ks12 : List (Nat × Nat) := []
def mm_ks13 : List (Nat × Nat) := []
def mm_ks (o : Nat) : List (Nat × Nat) := match o with
  | 0 => mm_ks0
  | 1 => mm_ks1
  | 2 => mm_ks2
  | 3 => mm_ks3
  | 4 => mm_ks4
  | 5 => mm_ks5
  | 6 => mm_ks6
  | 7 => mm_ks7
  | 8 => mm_ks8
  | 9 => mm_ks9
  | 10 => mm_ks10
  | 11 => mm_ks11
  | 12 => mm_ks12
  | 13 => mm_ks13
  | _ => []
set_option maxRecDepth 40000 in
theorem mm_ksk0 : ∀ q ∈ mm_ks0, Cond.stringRef (mm_R 0) q.1 (mm_tx.getD q.2 "") ∈ lw_tbl := fun _ h => absurd h List.not_mem_nil
set_option maxRecDepth 40000 in
theorem mm_ksk1 : ∀ q ∈ mm_ks1, Cond.stringRef (mm_R 1) q.1 (mm_tx.getD q.2 "") ∈ lw_tbl := fun _ h => absurd h List.not_mem_nil
set_option maxRecDepth 40000 in
theorem mm_ksk2 : ∀ q ∈ mm_ks2, Cond.stringRef (mm_R 2) q.1 (mm_tx.getD q.2 "") ∈ lw_tbl := fun _ h => absurd h List.not_mem_nil
set_option maxRecDepth 40000 in
theorem mm_ksk3 : ∀ q ∈ mm_ks3, Cond.stringRef (mm_R 3) q.1 (mm_tx.getD q.2 "") ∈ lw_tbl := fun _ h => absurd h List.not_mem_nil
set_option maxRecDepth 40000 in
theorem mm_ksk4 : ∀ q ∈ mm_ks4, Cond.stringRef (mm_R 4) q.1 (mm_tx.getD q.2 "") ∈ lw_tbl := List.forall_mem_cons.mpr ⟨mm_u3 (i := 221) rfl, List.forall_mem_cons.mpr ⟨mm_u3 (i := 239) rfl, List.forall_mem_cons.mpr ⟨mm_u4 (i := 16) rfl, List.forall_mem_cons.mpr ⟨mm_u4 (i := 30) rfl, List.forall_mem_cons.mpr ⟨mm_u4 (i := 32) rfl, List.forall_mem_cons.mpr ⟨mm_u4 (i := 33) rfl, fun _ h => absurd h List.not_mem_nil⟩⟩⟩⟩⟩⟩
set_option maxRecDepth 40000 in
theorem mm_ksk5 : ∀ q ∈ mm_ks5, Cond.stringRef (mm_R 5) q.1 (mm_tx.getD q.2 "") ∈ lw_tbl := fun _ h => absurd h List.not_mem_nil
set_option maxRecDepth 40000 in
theorem mm_ksk6 : ∀ q ∈ mm_ks6, Cond.stringRef (mm_R 6) q.1 (mm_tx.getD q.2 "") ∈ lw_tbl := fun _ h => absurd h List.not_mem_nil
set_option maxRecDepth 40000 in
theorem mm_ksk7 : ∀ q ∈ mm_ks7, Cond.stringRef (mm_R 7) q.1 (mm_tx.getD q.2 "") ∈ lw_tbl := fun _ h => absurd h List.not_mem_nil
set_option maxRecDepth 40000 in
theorem mm_ksk8 : ∀ q ∈ mm_ks8, Cond.stringRef (mm_R 8) q.1 (mm_tx.getD q.2 "") ∈ lw_tbl := fun _ h => absurd h List.not_mem_nil
set_option maxRecDepth 40000 in
theorem mm_ksk9 : ∀ q ∈ mm_ks9, Cond.stringRef (mm_R 9) q.1 (mm_tx.getD q.2 "") ∈ lw_tbl := fun _ h => absurd h List.not_mem_nil
set_option maxRecDepth 40000 in
theorem mm_ksk10 : ∀ q ∈ mm_ks10, Cond.stringRef (mm_R 10) q.1 (mm_tx.getD q.2 "") ∈ lw_tbl := fun _ h => absurd h List.not_mem_nil
set_option maxRecDepth 40000 in
theorem mm_ksk11 : ∀ q ∈ mm_ks11, Cond.stringRef (mm_R 11) q.1 (mm_tx.getD q.2 "") ∈ lw_tbl := List.forall_mem_cons.mpr ⟨mm_u3 (i := 49) rfl, List.forall_mem_cons.mpr ⟨mm_u3 (i := 128) rfl, fun _ h => absurd h List.not_mem_nil⟩⟩
set_option maxRecDepth 40000 in
theorem mm_ksk12 : ∀ q ∈ mm_ks12, Cond.stringRef (mm_R 12) q.1 (mm_tx.getD q.2 "") ∈ lw_tbl := fun _ h => absurd h List.not_mem_nil
set_option maxRecDepth 40000 in
theorem mm_ksk13 : ∀ q ∈ mm_ks13, Cond.stringRef (mm_R 13) q.1 (mm_tx.getD q.2 "") ∈ lw_tbl := fun _ h => absurd h List.not_mem_nil
theorem mm_ks_ok : ∀ (o : Nat) (q : Nat × Nat), q ∈ mm_ks o → Cond.stringRef (mm_R o) q.1 (mm_tx.getD q.2 "") ∈ lw_tbl
  | 0 => mm_ksk0
  | 1 => mm_ksk1
  | 2 => mm_ksk2
  | 3 => mm_ksk3
  | 4 => mm_ksk4
  | 5 => mm_ksk5
  | 6 => mm_ksk6
  | 7 => mm_ksk7
  | 8 => mm_ksk8
  | 9 => mm_ksk9
  | 10 => mm_ksk10
  | 11 => mm_ksk11
  | 12 => mm_ksk12
  | 13 => mm_ksk13
  | _ + 14 => fun _ h => absurd h List.not_mem_nil
/-- links of nest mates, carried apart: (index, method) -/
def mm_nl0 : List (Nat × Nat) := [(11, 1), (40, 6), (58, 10), (65, 11), (79, 7), (84, 5)]
def mm_nl1 : List (Nat × Nat) := [(17, 7)]
def mm_nl2 : List (Nat × Nat) := [(11, 7)]
def mm_nl3 : List (Nat × Nat) := []
def mm_nl4 : List (Nat × Nat) := [(17, 5)]
def mm_nl5 : List (Nat × Nat) := [(31, 7)]
def mm_nl6 : List (Nat × Nat) := []
def mm_nl7 : List (Nat × Nat) := []
def mm_nl8 : List (Nat × Nat) := []
def mm_nl9 : List (Nat × Nat) := [(20, 7), (27, 8)]
def mm_nl10 : List (Nat × Nat) := []
def mm_nl11 : List (Nat × Nat) := []
def mm_nl12 : List (Nat × Nat) := []
def mm_nl13 : List (Nat × Nat) := []
def mm_nl (o : Nat) : List (Nat × Nat) := match o with
  | 0 => mm_nl0
  | 1 => mm_nl1
  | 2 => mm_nl2
  | 3 => mm_nl3
  | 4 => mm_nl4
  | 5 => mm_nl5
  | 6 => mm_nl6
  | 7 => mm_nl7
  | 8 => mm_nl8
  | 9 => mm_nl9
  | 10 => mm_nl10
  | 11 => mm_nl11
  | 12 => mm_nl12
  | 13 => mm_nl13
  | _ => []
set_option maxRecDepth 40000 in
theorem mm_nlk0 : ∀ q ∈ mm_nl0, Cond.methodLinkNest (mm_R 0) q.1 (mm_y q.2) "GraveRails" ∈ lw_tbl := List.forall_mem_cons.mpr ⟨mm_u1 (i := 31) rfl, List.forall_mem_cons.mpr ⟨mm_u1 (i := 189) rfl, List.forall_mem_cons.mpr ⟨mm_u2 (i := 97) rfl, List.forall_mem_cons.mpr ⟨mm_u2 (i := 150) rfl, List.forall_mem_cons.mpr ⟨mm_u2 (i := 199) rfl, List.forall_mem_cons.mpr ⟨mm_u2 (i := 200) rfl, fun _ h => absurd h List.not_mem_nil⟩⟩⟩⟩⟩⟩
set_option maxRecDepth 40000 in
theorem mm_nlk1 : ∀ q ∈ mm_nl1, Cond.methodLinkNest (mm_R 1) q.1 (mm_y q.2) "GraveRails" ∈ lw_tbl := List.forall_mem_cons.mpr ⟨mm_u2 (i := 83) rfl, fun _ h => absurd h List.not_mem_nil⟩
set_option maxRecDepth 40000 in
theorem mm_nlk2 : ∀ q ∈ mm_nl2, Cond.methodLinkNest (mm_R 2) q.1 (mm_y q.2) "GraveRails" ∈ lw_tbl := List.forall_mem_cons.mpr ⟨mm_u2 (i := 102) rfl, fun _ h => absurd h List.not_mem_nil⟩
set_option maxRecDepth 40000 in
theorem mm_nlk3 : ∀ q ∈ mm_nl3, Cond.methodLinkNest (mm_R 3) q.1 (mm_y q.2) "GraveRails" ∈ lw_tbl := fun _ h => absurd h List.not_mem_nil
set_option maxRecDepth 40000 in
theorem mm_nlk4 : ∀ q ∈ mm_nl4, Cond.methodLinkNest (mm_R 4) q.1 (mm_y q.2) "GraveRails" ∈ lw_tbl := List.forall_mem_cons.mpr ⟨mm_u1 (i := 148) rfl, fun _ h => absurd h List.not_mem_nil⟩
set_option maxRecDepth 40000 in
theorem mm_nlk5 : ∀ q ∈ mm_nl5, Cond.methodLinkNest (mm_R 5) q.1 (mm_y q.2) "GraveRails" ∈ lw_tbl := List.forall_mem_cons.mpr ⟨mm_u2 (i := 157) rfl, fun _ h => absurd h List.not_mem_nil⟩
set_option maxRecDepth 40000 in
theorem mm_nlk6 : ∀ q ∈ mm_nl6, Cond.methodLinkNest (mm_R 6) q.1 (mm_y q.2) "GraveRails" ∈ lw_tbl := fun _ h => absurd h List.not_mem_nil
set_option maxRecDepth 40000 in
theorem mm_nlk7 : ∀ q ∈ mm_nl7, Cond.methodLinkNest (mm_R 7) q.1 (mm_y q.2) "GraveRails" ∈ lw_tbl := fun _ h => absurd h List.not_mem_nil
set_option maxRecDepth 40000 in
theorem mm_nlk8 : ∀ q ∈ mm_nl8, Cond.methodLinkNest (mm_R 8) q.1 (mm_y q.2) "GraveRails" ∈ lw_tbl := fun _ h => absurd h List.not_mem_nil
set_option maxRecDepth 40000 in
theorem mm_nlk9 : ∀ q ∈ mm_nl9, Cond.methodLinkNest (mm_R 9) q.1 (mm_y q.2) "GraveRails" ∈ lw_tbl := List.forall_mem_cons.mpr ⟨mm_u1 (i := 197) rfl, List.forall_mem_cons.mpr ⟨mm_u2 (i := 30) rfl, fun _ h => absurd h List.not_mem_nil⟩⟩
set_option maxRecDepth 40000 in
theorem mm_nlk10 : ∀ q ∈ mm_nl10, Cond.methodLinkNest (mm_R 10) q.1 (mm_y q.2) "GraveRails" ∈ lw_tbl := fun _ h => absurd h List.not_mem_nil
set_option maxRecDepth 40000 in
theorem mm_nlk11 : ∀ q ∈ mm_nl11, Cond.methodLinkNest (mm_R 11) q.1 (mm_y q.2) "GraveRails" ∈ lw_tbl := fun _ h => absurd h List.not_mem_nil
set_option maxRecDepth 40000 in
theorem mm_nlk12 : ∀ q ∈ mm_nl12, Cond.methodLinkNest (mm_R 12) q.1 (mm_y q.2) "GraveRails" ∈ lw_tbl := fun _ h => absurd h List.not_mem_nil
set_option maxRecDepth 40000 in
theorem mm_nlk13 : ∀ q ∈ mm_nl13, Cond.methodLinkNest (mm_R 13) q.1 (mm_y q.2) "GraveRails" ∈ lw_tbl := fun _ h => absurd h List.not_mem_nil
theorem mm_nl_ok : ∀ (o : Nat) (q : Nat × Nat), q ∈ mm_nl o → Cond.methodLinkNest (mm_R o) q.1 (mm_y q.2) "GraveRails" ∈ lw_tbl
  | 0 => mm_nlk0
  | 1 => mm_nlk1
  | 2 => mm_nlk2
  | 3 => mm_nlk3
  | 4 => mm_nlk4
  | 5 => mm_nlk5
  | 6 => mm_nlk6
  | 7 => mm_nlk7
  | 8 => mm_nlk8
  | 9 => mm_nlk9
  | 10 => mm_nlk10
  | 11 => mm_nlk11
  | 12 => mm_nlk12
  | 13 => mm_nlk13
  | _ + 14 => fun _ h => absurd h List.not_mem_nil
theorem mm_mt9002 : Cond.static (mm_xn 9002) ∈ mm_gw ∧ Cond.code (mm_xn 9002) prog_15_method_65_code 2 (some .int) ∈ mm_gw := ⟨mm_t3 (i := 31) rfl rfl, mm_t3 (i := 32) rfl rfl⟩
theorem mm_mt9003 : Cond.static (mm_xn 9003) ∈ mm_gw ∧ Cond.code (mm_xn 9003) prog_15_method_69_code 2 (some .int) ∈ mm_gw := ⟨mm_t4 (i := 96) rfl rfl, mm_t4 (i := 97) rfl rfl⟩
theorem mm_mt9004 : Cond.static (mm_xn 9004) ∈ mm_gw ∧ Cond.code (mm_xn 9004) prog_15_method_66_code 4 (some .long) ∈ mm_gw := ⟨mm_t4 (i := 168) rfl rfl, mm_t4 (i := 169) rfl rfl⟩
theorem mm_mt9005 : Cond.static (mm_xn 9005) ∈ mm_gw ∧ Cond.code (mm_xn 9005) prog_15_method_70_code 4 (some .long) ∈ mm_gw := ⟨mm_t4 (i := 165) rfl rfl, mm_t4 (i := 166) rfl rfl⟩
theorem mm_mti : Cond.initialized "java/lang/Math" ∈ mm_gw := mm_t1 (i := 15) rfl rfl
theorem mm_o1 : Cond.instanceMethod Lib.objectInit ∈ mm_gw := mm_t1 (i := 27) rfl rfl
theorem mm_o2 : Cond.code Lib.objectInit ⟨#[0xb1]⟩ 1 none ∈ mm_gw := mm_t1 (i := 28) rfl rfl
theorem mm_a1 : Cond.native arraycopyName ∈ mm_gw := mm_t3 (i := 199) rfl rfl
theorem mm_a2 : Cond.static arraycopyName ∈ mm_gw := mm_t3 (i := 198) rfl rfl
theorem mm_a3 : Cond.initialized "java/lang/System" ∈ mm_gw := mm_t1 (i := 20) rfl rfl
theorem mm_ar_byte : Cond.arrayClass .byte ∈ mm_gw := mm_t1 (i := 62) rfl rfl
theorem mm_ar_int : Cond.arrayClass .int ∈ mm_gw := mm_t1 (i := 131) rfl rfl
theorem mm_ar_long : Cond.arrayClass .long ∈ mm_gw := mm_t1 (i := 174) rfl rfl
theorem mm_ar_boolean : Cond.arrayClass .boolean ∈ mm_gw := mm_t6 (i := 18) rfl rfl
theorem mm_ao_Rule : Cond.arrayOver (.object "GraveRails$Rule") ∈ lw_tbl := mm_u1 (i := 186) rfl
theorem mm_ao_World : Cond.arrayOver (.object "GraveRails$World") ∈ lw_tbl := mm_u2 (i := 74) rfl
theorem mm_ao_State : Cond.arrayOver (.object "GraveRails$State") ∈ lw_tbl := mm_u2 (i := 82) rfl
