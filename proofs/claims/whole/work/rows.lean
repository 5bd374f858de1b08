section
-- ===== PART A: goes FIRST, ahead of the names: the tables' words, and 'selects' of the private methods out of them =====
/-- a private method of a class that the tables say can be made, by its rows of tables_1 -/
def lw_okq (q : MethodName × Nat) : Prop := (q.1.cls ≠ "java/lang/invoke/MethodHandle" ∧ q.1.cls ≠ "java/lang/invoke/VarHandle") ∧ Cond.instantiable q.1.cls q.2 ∈ tables_1 ∧ Cond.privateMethod q.1 ∈ tables_1 ∧ Cond.instanceMethod q.1 ∈ tables_1
theorem lw_p0 : lw_okq (⟨"DebateHouse$Session", "refusalAtLarge", "(I)I"⟩, 16) := ⟨⟨by decide +kernel, by decide +kernel⟩, List.mem_of_getElem? (i := 155) (by decide +kernel), List.mem_of_getElem? (i := 584) (by decide +kernel), List.mem_of_getElem? (i := 585) (by decide +kernel)⟩
theorem lw_p1 : lw_okq (⟨"DebateHouse$Session", "numbersAreAsTold", "(I)Z"⟩, 16) := ⟨⟨by decide +kernel, by decide +kernel⟩, List.mem_of_getElem? (i := 155) (by decide +kernel), List.mem_of_getElem? (i := 588) (by decide +kernel), List.mem_of_getElem? (i := 589) (by decide +kernel)⟩
theorem lw_p2 : lw_okq (⟨"DebateHouse$Session", "isThere", "(I)Z"⟩, 16) := ⟨⟨by decide +kernel, by decide +kernel⟩, List.mem_of_getElem? (i := 155) (by decide +kernel), List.mem_of_getElem? (i := 597) (by decide +kernel), List.mem_of_getElem? (i := 598) (by decide +kernel)⟩
theorem lw_p3 : lw_okq (⟨"DebateHouse$Session", "isInOrder", "(I)Z"⟩, 16) := ⟨⟨by decide +kernel, by decide +kernel⟩, List.mem_of_getElem? (i := 155) (by decide +kernel), List.mem_of_getElem? (i := 607) (by decide +kernel), List.mem_of_getElem? (i := 608) (by decide +kernel)⟩
theorem lw_p4 : lw_okq (⟨"DebateHouse$Session", "mayMove", "(I)Z"⟩, 16) := ⟨⟨by decide +kernel, by decide +kernel⟩, List.mem_of_getElem? (i := 155) (by decide +kernel), List.mem_of_getElem? (i := 623) (by decide +kernel), List.mem_of_getElem? (i := 624) (by decide +kernel)⟩
theorem lw_p5 : lw_okq (⟨"DebateHouse$Session", "mayAppeal", "()Z"⟩, 16) := ⟨⟨by decide +kernel, by decide +kernel⟩, List.mem_of_getElem? (i := 155) (by decide +kernel), List.mem_of_getElem? (i := 636) (by decide +kernel), List.mem_of_getElem? (i := 637) (by decide +kernel)⟩
theorem lw_p6 : lw_okq (⟨"DebateHouse$Session", "isWorked", "(I)Z"⟩, 16) := ⟨⟨by decide +kernel, by decide +kernel⟩, List.mem_of_getElem? (i := 155) (by decide +kernel), List.mem_of_getElem? (i := 640) (by decide +kernel), List.mem_of_getElem? (i := 641) (by decide +kernel)⟩
theorem lw_p7 : lw_okq (⟨"DebateHouse$Session", "mayMoveKind", "(II)Z"⟩, 16) := ⟨⟨by decide +kernel, by decide +kernel⟩, List.mem_of_getElem? (i := 155) (by decide +kernel), List.mem_of_getElem? (i := 656) (by decide +kernel), List.mem_of_getElem? (i := 657) (by decide +kernel)⟩
theorem lw_p8 : lw_okq (⟨"DebateHouse$Paper", "behind", "(I)I"⟩, 6) := ⟨⟨by decide +kernel, by decide +kernel⟩, List.mem_of_getElem? (i := 237) (by decide +kernel), List.mem_of_getElem? (i := 668) (by decide +kernel), List.mem_of_getElem? (i := 669) (by decide +kernel)⟩
theorem lw_p9 : lw_okq (⟨"DebateHouse$Session", "hasOther", "(II)Z"⟩, 16) := ⟨⟨by decide +kernel, by decide +kernel⟩, List.mem_of_getElem? (i := 155) (by decide +kernel), List.mem_of_getElem? (i := 681) (by decide +kernel), List.mem_of_getElem? (i := 682) (by decide +kernel)⟩
theorem lw_p10 : lw_okq (⟨"DebateHouse$Session", "perform", "(I)V"⟩, 16) := ⟨⟨by decide +kernel, by decide +kernel⟩, List.mem_of_getElem? (i := 155) (by decide +kernel), List.mem_of_getElem? (i := 685) (by decide +kernel), List.mem_of_getElem? (i := 686) (by decide +kernel)⟩
theorem lw_p11 : lw_okq (⟨"DebateHouse$Floor", "nextPlace", "()I"⟩, 8) := ⟨⟨by decide +kernel, by decide +kernel⟩, List.mem_of_getElem? (i := 161) (by decide +kernel), List.mem_of_getElem? (i := 705) (by decide +kernel), List.mem_of_getElem? (i := 706) (by decide +kernel)⟩
theorem lw_p12 : lw_okq (⟨"DebateHouse$Floor", "countedSpeeches", "(I)I"⟩, 8) := ⟨⟨by decide +kernel, by decide +kernel⟩, List.mem_of_getElem? (i := 161) (by decide +kernel), List.mem_of_getElem? (i := 709) (by decide +kernel), List.mem_of_getElem? (i := 710) (by decide +kernel)⟩
theorem lw_p13 : lw_okq (⟨"DebateHouse$Session", "letTicksGo", "(I)V"⟩, 16) := ⟨⟨by decide +kernel, by decide +kernel⟩, List.mem_of_getElem? (i := 155) (by decide +kernel), List.mem_of_getElem? (i := 718) (by decide +kernel), List.mem_of_getElem? (i := 719) (by decide +kernel)⟩
theorem lw_p14 : lw_okq (⟨"DebateHouse$Session", "decide", "(I)V"⟩, 16) := ⟨⟨by decide +kernel, by decide +kernel⟩, List.mem_of_getElem? (i := 155) (by decide +kernel), List.mem_of_getElem? (i := 743) (by decide +kernel), List.mem_of_getElem? (i := 744) (by decide +kernel)⟩
theorem lw_p15 : lw_okq (⟨"DebateHouse$Session", "isCarried", "(III)Z"⟩, 16) := ⟨⟨by decide +kernel, by decide +kernel⟩, List.mem_of_getElem? (i := 155) (by decide +kernel), List.mem_of_getElem? (i := 748) (by decide +kernel), List.mem_of_getElem? (i := 749) (by decide +kernel)⟩
def lw_privs_1 : List (MethodName × Nat) := [(⟨"DebateHouse$Session", "refusalAtLarge", "(I)I"⟩, 16), (⟨"DebateHouse$Session", "numbersAreAsTold", "(I)Z"⟩, 16), (⟨"DebateHouse$Session", "isThere", "(I)Z"⟩, 16), (⟨"DebateHouse$Session", "isInOrder", "(I)Z"⟩, 16), (⟨"DebateHouse$Session", "mayMove", "(I)Z"⟩, 16), (⟨"DebateHouse$Session", "mayAppeal", "()Z"⟩, 16), (⟨"DebateHouse$Session", "isWorked", "(I)Z"⟩, 16), (⟨"DebateHouse$Session", "mayMoveKind", "(II)Z"⟩, 16), (⟨"DebateHouse$Paper", "behind", "(I)I"⟩, 6), (⟨"DebateHouse$Session", "hasOther", "(II)Z"⟩, 16), (⟨"DebateHouse$Session", "perform", "(I)V"⟩, 16), (⟨"DebateHouse$Floor", "nextPlace", "()I"⟩, 8), (⟨"DebateHouse$Floor", "countedSpeeches", "(I)I"⟩, 8), (⟨"DebateHouse$Session", "letTicksGo", "(I)V"⟩, 16), (⟨"DebateHouse$Session", "decide", "(I)V"⟩, 16), (⟨"DebateHouse$Session", "isCarried", "(III)Z"⟩, 16)]
theorem lw_r1 : ∀ q ∈ lw_privs_1, lw_okq q := List.forall_mem_cons.mpr ⟨lw_p0, List.forall_mem_cons.mpr ⟨lw_p1, List.forall_mem_cons.mpr ⟨lw_p2, List.forall_mem_cons.mpr ⟨lw_p3, List.forall_mem_cons.mpr ⟨lw_p4, List.forall_mem_cons.mpr ⟨lw_p5, List.forall_mem_cons.mpr ⟨lw_p6, List.forall_mem_cons.mpr ⟨lw_p7, List.forall_mem_cons.mpr ⟨lw_p8, List.forall_mem_cons.mpr ⟨lw_p9, List.forall_mem_cons.mpr ⟨lw_p10, List.forall_mem_cons.mpr ⟨lw_p11, List.forall_mem_cons.mpr ⟨lw_p12, List.forall_mem_cons.mpr ⟨lw_p13, List.forall_mem_cons.mpr ⟨lw_p14, List.forall_mem_cons.mpr ⟨lw_p15, fun _ h => absurd h List.not_mem_nil⟩⟩⟩⟩⟩⟩⟩⟩⟩⟩⟩⟩⟩⟩⟩⟩
theorem lw_p16 : lw_okq (⟨"DebateHouse$Session", "settleAppeal", "(IZ)V"⟩, 16) := ⟨⟨by decide +kernel, by decide +kernel⟩, List.mem_of_getElem? (i := 155) (by decide +kernel), List.mem_of_getElem? (i := 752) (by decide +kernel), List.mem_of_getElem? (i := 753) (by decide +kernel)⟩
theorem lw_p17 : lw_okq (⟨"DebateHouse$Session", "carryOut", "(III)V"⟩, 16) := ⟨⟨by decide +kernel, by decide +kernel⟩, List.mem_of_getElem? (i := 155) (by decide +kernel), List.mem_of_getElem? (i := 756) (by decide +kernel), List.mem_of_getElem? (i := 757) (by decide +kernel)⟩
theorem lw_p18 : lw_okq (⟨"DebateHouse$Paper", "insert", "(II)V"⟩, 6) := ⟨⟨by decide +kernel, by decide +kernel⟩, List.mem_of_getElem? (i := 237) (by decide +kernel), List.mem_of_getElem? (i := 765) (by decide +kernel), List.mem_of_getElem? (i := 766) (by decide +kernel)⟩
theorem lw_p19 : lw_okq (⟨"DebateHouse$Paper", "addBehind", "(II)V"⟩, 6) := ⟨⟨by decide +kernel, by decide +kernel⟩, List.mem_of_getElem? (i := 237) (by decide +kernel), List.mem_of_getElem? (i := 773) (by decide +kernel), List.mem_of_getElem? (i := 774) (by decide +kernel)⟩
theorem lw_p20 : lw_okq (⟨"DebateHouse$Paper", "remove", "(I)V"⟩, 6) := ⟨⟨by decide +kernel, by decide +kernel⟩, List.mem_of_getElem? (i := 237) (by decide +kernel), List.mem_of_getElem? (i := 781) (by decide +kernel), List.mem_of_getElem? (i := 782) (by decide +kernel)⟩
theorem lw_p21 : lw_okq (⟨"DebateHouse$Jury", "counts", "(II)Z"⟩, 4) := ⟨⟨by decide +kernel, by decide +kernel⟩, List.mem_of_getElem? (i := 335) (by decide +kernel), List.mem_of_getElem? (i := 886) (by decide +kernel), List.mem_of_getElem? (i := 887) (by decide +kernel)⟩
theorem lw_p22 : lw_okq (⟨"DebateHouse$Jury", "scaled", "(II)I"⟩, 4) := ⟨⟨by decide +kernel, by decide +kernel⟩, List.mem_of_getElem? (i := 335) (by decide +kernel), List.mem_of_getElem? (i := 890) (by decide +kernel), List.mem_of_getElem? (i := 891) (by decide +kernel)⟩
theorem lw_p23 : lw_okq (⟨"DebateHouse$Jury", "countAheadOf", "(I)I"⟩, 4) := ⟨⟨by decide +kernel, by decide +kernel⟩, List.mem_of_getElem? (i := 335) (by decide +kernel), List.mem_of_getElem? (i := 907) (by decide +kernel), List.mem_of_getElem? (i := 908) (by decide +kernel)⟩
theorem lw_p24 : lw_okq (⟨"DebateHouseModel", "begin", "()V"⟩, 61) := ⟨⟨by decide +kernel, by decide +kernel⟩, List.mem_of_getElem? (i := 915) (by decide +kernel), List.mem_of_getElem? (i := 924) (by decide +kernel), List.mem_of_getElem? (i := 925) (by decide +kernel)⟩
theorem lw_p25 : lw_okq (⟨"DebateHouseModel", "put", "(I)V"⟩, 61) := ⟨⟨by decide +kernel, by decide +kernel⟩, List.mem_of_getElem? (i := 915) (by decide +kernel), List.mem_of_getElem? (i := 1115) (by decide +kernel), List.mem_of_getElem? (i := 1116) (by decide +kernel)⟩
theorem lw_p26 : lw_okq (⟨"DebateHouseModel", "isEnd", "()Z"⟩, 61) := ⟨⟨by decide +kernel, by decide +kernel⟩, List.mem_of_getElem? (i := 915) (by decide +kernel), List.mem_of_getElem? (i := 1127) (by decide +kernel), List.mem_of_getElem? (i := 1128) (by decide +kernel)⟩
theorem lw_p27 : lw_okq (⟨"DebateHouseModel", "clause", "()V"⟩, 61) := ⟨⟨by decide +kernel, by decide +kernel⟩, List.mem_of_getElem? (i := 915) (by decide +kernel), List.mem_of_getElem? (i := 1131) (by decide +kernel), List.mem_of_getElem? (i := 1132) (by decide +kernel)⟩
theorem lw_p28 : lw_okq (⟨"DebateHouseModel", "word", "()V"⟩, 61) := ⟨⟨by decide +kernel, by decide +kernel⟩, List.mem_of_getElem? (i := 915) (by decide +kernel), List.mem_of_getElem? (i := 1135) (by decide +kernel), List.mem_of_getElem? (i := 1136) (by decide +kernel)⟩
theorem lw_p29 : lw_okq (⟨"DebateHouseModel", "isLetter", "()Z"⟩, 61) := ⟨⟨by decide +kernel, by decide +kernel⟩, List.mem_of_getElem? (i := 915) (by decide +kernel), List.mem_of_getElem? (i := 1139) (by decide +kernel), List.mem_of_getElem? (i := 1140) (by decide +kernel)⟩
theorem lw_p30 : lw_okq (⟨"DebateHouseModel", "fails", "(II)V"⟩, 61) := ⟨⟨by decide +kernel, by decide +kernel⟩, List.mem_of_getElem? (i := 915) (by decide +kernel), List.mem_of_getElem? (i := 1143) (by decide +kernel), List.mem_of_getElem? (i := 1144) (by decide +kernel)⟩
theorem lw_p31 : lw_okq (⟨"DebateHouseModel", "is", "(Ljava/lang/String;)Z"⟩, 61) := ⟨⟨by decide +kernel, by decide +kernel⟩, List.mem_of_getElem? (i := 915) (by decide +kernel), List.mem_of_getElem? (i := 1148) (by decide +kernel), List.mem_of_getElem? (i := 1149) (by decide +kernel)⟩
def lw_privs_2 : List (MethodName × Nat) := [(⟨"DebateHouse$Session", "settleAppeal", "(IZ)V"⟩, 16), (⟨"DebateHouse$Session", "carryOut", "(III)V"⟩, 16), (⟨"DebateHouse$Paper", "insert", "(II)V"⟩, 6), (⟨"DebateHouse$Paper", "addBehind", "(II)V"⟩, 6), (⟨"DebateHouse$Paper", "remove", "(I)V"⟩, 6), (⟨"DebateHouse$Jury", "counts", "(II)Z"⟩, 4), (⟨"DebateHouse$Jury", "scaled", "(II)I"⟩, 4), (⟨"DebateHouse$Jury", "countAheadOf", "(I)I"⟩, 4), (⟨"DebateHouseModel", "begin", "()V"⟩, 61), (⟨"DebateHouseModel", "put", "(I)V"⟩, 61), (⟨"DebateHouseModel", "isEnd", "()Z"⟩, 61), (⟨"DebateHouseModel", "clause", "()V"⟩, 61), (⟨"DebateHouseModel", "word", "()V"⟩, 61), (⟨"DebateHouseModel", "isLetter", "()Z"⟩, 61), (⟨"DebateHouseModel", "fails", "(II)V"⟩, 61), (⟨"DebateHouseModel", "is", "(Ljava/lang/String;)Z"⟩, 61)]
theorem lw_r2 : ∀ q ∈ lw_privs_2, lw_okq q := List.forall_mem_cons.mpr ⟨lw_p16, List.forall_mem_cons.mpr ⟨lw_p17, List.forall_mem_cons.mpr ⟨lw_p18, List.forall_mem_cons.mpr ⟨lw_p19, List.forall_mem_cons.mpr ⟨lw_p20, List.forall_mem_cons.mpr ⟨lw_p21, List.forall_mem_cons.mpr ⟨lw_p22, List.forall_mem_cons.mpr ⟨lw_p23, List.forall_mem_cons.mpr ⟨lw_p24, List.forall_mem_cons.mpr ⟨lw_p25, List.forall_mem_cons.mpr ⟨lw_p26, List.forall_mem_cons.mpr ⟨lw_p27, List.forall_mem_cons.mpr ⟨lw_p28, List.forall_mem_cons.mpr ⟨lw_p29, List.forall_mem_cons.mpr ⟨lw_p30, List.forall_mem_cons.mpr ⟨lw_p31, fun _ h => absurd h List.not_mem_nil⟩⟩⟩⟩⟩⟩⟩⟩⟩⟩⟩⟩⟩⟩⟩⟩
theorem lw_p32 : lw_okq (⟨"DebateHouseModel", "motion", "()V"⟩, 61) := ⟨⟨by decide +kernel, by decide +kernel⟩, List.mem_of_getElem? (i := 915) (by decide +kernel), List.mem_of_getElem? (i := 1154) (by decide +kernel), List.mem_of_getElem? (i := 1155) (by decide +kernel)⟩
theorem lw_p33 : lw_okq (⟨"DebateHouseModel", "kindOf", "(I)Ljava/lang/String;"⟩, 61) := ⟨⟨by decide +kernel, by decide +kernel⟩, List.mem_of_getElem? (i := 915) (by decide +kernel), List.mem_of_getElem? (i := 1158) (by decide +kernel), List.mem_of_getElem? (i := 1159) (by decide +kernel)⟩
theorem lw_p34 : lw_okq (⟨"DebateHouseModel", "one", "(Ljava/lang/String;Ljava/lang/String;)Z"⟩, 61) := ⟨⟨by decide +kernel, by decide +kernel⟩, List.mem_of_getElem? (i := 915) (by decide +kernel), List.mem_of_getElem? (i := 1171) (by decide +kernel), List.mem_of_getElem? (i := 1172) (by decide +kernel)⟩
theorem lw_p35 : lw_okq (⟨"DebateHouseModel", "number", "(II)I"⟩, 61) := ⟨⟨by decide +kernel, by decide +kernel⟩, List.mem_of_getElem? (i := 915) (by decide +kernel), List.mem_of_getElem? (i := 1175) (by decide +kernel), List.mem_of_getElem? (i := 1176) (by decide +kernel)⟩
theorem lw_p36 : lw_okq (⟨"DebateHouseModel", "wayOf", "(I)Ljava/lang/String;"⟩, 61) := ⟨⟨by decide +kernel, by decide +kernel⟩, List.mem_of_getElem? (i := 915) (by decide +kernel), List.mem_of_getElem? (i := 1186) (by decide +kernel), List.mem_of_getElem? (i := 1187) (by decide +kernel)⟩
theorem lw_p37 : lw_okq (⟨"DebateHouseModel", "clauseOf", "(I)Ljava/lang/String;"⟩, 61) := ⟨⟨by decide +kernel, by decide +kernel⟩, List.mem_of_getElem? (i := 915) (by decide +kernel), List.mem_of_getElem? (i := 1194) (by decide +kernel), List.mem_of_getElem? (i := 1195) (by decide +kernel)⟩
theorem lw_p38 : lw_okq (⟨"DebateHouseModel", "works", "(I)V"⟩, 61) := ⟨⟨by decide +kernel, by decide +kernel⟩, List.mem_of_getElem? (i := 915) (by decide +kernel), List.mem_of_getElem? (i := 1214) (by decide +kernel), List.mem_of_getElem? (i := 1215) (by decide +kernel)⟩
theorem lw_p39 : lw_okq (⟨"DebateHouseModel", "rule", "(I)I"⟩, 61) := ⟨⟨by decide +kernel, by decide +kernel⟩, List.mem_of_getElem? (i := 915) (by decide +kernel), List.mem_of_getElem? (i := 1218) (by decide +kernel), List.mem_of_getElem? (i := 1219) (by decide +kernel)⟩
theorem lw_p40 : lw_okq (⟨"DebateHouseModel", "isWrong", "(II)Z"⟩, 61) := ⟨⟨by decide +kernel, by decide +kernel⟩, List.mem_of_getElem? (i := 915) (by decide +kernel), List.mem_of_getElem? (i := 1222) (by decide +kernel), List.mem_of_getElem? (i := 1223) (by decide +kernel)⟩
theorem lw_p41 : lw_okq (⟨"DebateHouseModel", "there", "()I"⟩, 61) := ⟨⟨by decide +kernel, by decide +kernel⟩, List.mem_of_getElem? (i := 915) (by decide +kernel), List.mem_of_getElem? (i := 1226) (by decide +kernel), List.mem_of_getElem? (i := 1227) (by decide +kernel)⟩
theorem lw_p42 : lw_okq (⟨"DebateHouseModel", "isInOrder", "(III)Z"⟩, 61) := ⟨⟨by decide +kernel, by decide +kernel⟩, List.mem_of_getElem? (i := 915) (by decide +kernel), List.mem_of_getElem? (i := 1230) (by decide +kernel), List.mem_of_getElem? (i := 1231) (by decide +kernel)⟩
theorem lw_p43 : lw_okq (⟨"DebateHouseModel", "waitsFor", "(I)Z"⟩, 61) := ⟨⟨by decide +kernel, by decide +kernel⟩, List.mem_of_getElem? (i := 915) (by decide +kernel), List.mem_of_getElem? (i := 1234) (by decide +kernel), List.mem_of_getElem? (i := 1235) (by decide +kernel)⟩
theorem lw_p44 : lw_okq (⟨"DebateHouseModel", "mayMove", "(II)Z"⟩, 61) := ⟨⟨by decide +kernel, by decide +kernel⟩, List.mem_of_getElem? (i := 915) (by decide +kernel), List.mem_of_getElem? (i := 1238) (by decide +kernel), List.mem_of_getElem? (i := 1239) (by decide +kernel)⟩
theorem lw_p45 : lw_okq (⟨"DebateHouseModel", "refused", "(I)I"⟩, 61) := ⟨⟨by decide +kernel, by decide +kernel⟩, List.mem_of_getElem? (i := 915) (by decide +kernel), List.mem_of_getElem? (i := 1242) (by decide +kernel), List.mem_of_getElem? (i := 1243) (by decide +kernel)⟩
theorem lw_p46 : lw_okq (⟨"DebateHouseModel", "mayAmend", "(I)Z"⟩, 61) := ⟨⟨by decide +kernel, by decide +kernel⟩, List.mem_of_getElem? (i := 915) (by decide +kernel), List.mem_of_getElem? (i := 1246) (by decide +kernel), List.mem_of_getElem? (i := 1247) (by decide +kernel)⟩
theorem lw_p47 : lw_okq (⟨"DebateHouseModel", "placeOf", "(I)I"⟩, 61) := ⟨⟨by decide +kernel, by decide +kernel⟩, List.mem_of_getElem? (i := 915) (by decide +kernel), List.mem_of_getElem? (i := 1250) (by decide +kernel), List.mem_of_getElem? (i := 1251) (by decide +kernel)⟩
def lw_privs_3 : List (MethodName × Nat) := [(⟨"DebateHouseModel", "motion", "()V"⟩, 61), (⟨"DebateHouseModel", "kindOf", "(I)Ljava/lang/String;"⟩, 61), (⟨"DebateHouseModel", "one", "(Ljava/lang/String;Ljava/lang/String;)Z"⟩, 61), (⟨"DebateHouseModel", "number", "(II)I"⟩, 61), (⟨"DebateHouseModel", "wayOf", "(I)Ljava/lang/String;"⟩, 61), (⟨"DebateHouseModel", "clauseOf", "(I)Ljava/lang/String;"⟩, 61), (⟨"DebateHouseModel", "works", "(I)V"⟩, 61), (⟨"DebateHouseModel", "rule", "(I)I"⟩, 61), (⟨"DebateHouseModel", "isWrong", "(II)Z"⟩, 61), (⟨"DebateHouseModel", "there", "()I"⟩, 61), (⟨"DebateHouseModel", "isInOrder", "(III)Z"⟩, 61), (⟨"DebateHouseModel", "waitsFor", "(I)Z"⟩, 61), (⟨"DebateHouseModel", "mayMove", "(II)Z"⟩, 61), (⟨"DebateHouseModel", "refused", "(I)I"⟩, 61), (⟨"DebateHouseModel", "mayAmend", "(I)Z"⟩, 61), (⟨"DebateHouseModel", "placeOf", "(I)I"⟩, 61)]
theorem lw_r3 : ∀ q ∈ lw_privs_3, lw_okq q := List.forall_mem_cons.mpr ⟨lw_p32, List.forall_mem_cons.mpr ⟨lw_p33, List.forall_mem_cons.mpr ⟨lw_p34, List.forall_mem_cons.mpr ⟨lw_p35, List.forall_mem_cons.mpr ⟨lw_p36, List.forall_mem_cons.mpr ⟨lw_p37, List.forall_mem_cons.mpr ⟨lw_p38, List.forall_mem_cons.mpr ⟨lw_p39, List.forall_mem_cons.mpr ⟨lw_p40, List.forall_mem_cons.mpr ⟨lw_p41, List.forall_mem_cons.mpr ⟨lw_p42, List.forall_mem_cons.mpr ⟨lw_p43, List.forall_mem_cons.mpr ⟨lw_p44, List.forall_mem_cons.mpr ⟨lw_p45, List.forall_mem_cons.mpr ⟨lw_p46, List.forall_mem_cons.mpr ⟨lw_p47, fun _ h => absurd h List.not_mem_nil⟩⟩⟩⟩⟩⟩⟩⟩⟩⟩⟩⟩⟩⟩⟩⟩
theorem lw_p48 : lw_okq (⟨"DebateHouseModel", "does", "(I)V"⟩, 61) := ⟨⟨by decide +kernel, by decide +kernel⟩, List.mem_of_getElem? (i := 915) (by decide +kernel), List.mem_of_getElem? (i := 1254) (by decide +kernel), List.mem_of_getElem? (i := 1255) (by decide +kernel)⟩
theorem lw_p49 : lw_okq (⟨"DebateHouseModel", "leaves", "(I)V"⟩, 61) := ⟨⟨by decide +kernel, by decide +kernel⟩, List.mem_of_getElem? (i := 915) (by decide +kernel), List.mem_of_getElem? (i := 1258) (by decide +kernel), List.mem_of_getElem? (i := 1259) (by decide +kernel)⟩
theorem lw_p50 : lw_okq (⟨"DebateHouseModel", "free", "()V"⟩, 61) := ⟨⟨by decide +kernel, by decide +kernel⟩, List.mem_of_getElem? (i := 915) (by decide +kernel), List.mem_of_getElem? (i := 1262) (by decide +kernel), List.mem_of_getElem? (i := 1263) (by decide +kernel)⟩
theorem lw_p51 : lw_okq (⟨"DebateHouseModel", "next", "([II[I)I"⟩, 61) := ⟨⟨by decide +kernel, by decide +kernel⟩, List.mem_of_getElem? (i := 915) (by decide +kernel), List.mem_of_getElem? (i := 1266) (by decide +kernel), List.mem_of_getElem? (i := 1267) (by decide +kernel)⟩
theorem lw_p52 : lw_okq (⟨"DebateHouseModel", "spoke", "(I[I)I"⟩, 61) := ⟨⟨by decide +kernel, by decide +kernel⟩, List.mem_of_getElem? (i := 915) (by decide +kernel), List.mem_of_getElem? (i := 1270) (by decide +kernel), List.mem_of_getElem? (i := 1271) (by decide +kernel)⟩
theorem lw_p53 : lw_okq (⟨"DebateHouseModel", "moves", "(I)V"⟩, 61) := ⟨⟨by decide +kernel, by decide +kernel⟩, List.mem_of_getElem? (i := 915) (by decide +kernel), List.mem_of_getElem? (i := 1274) (by decide +kernel), List.mem_of_getElem? (i := 1275) (by decide +kernel)⟩
theorem lw_p54 : lw_okq (⟨"DebateHouseModel", "isPassing", "(II)Z"⟩, 61) := ⟨⟨by decide +kernel, by decide +kernel⟩, List.mem_of_getElem? (i := 915) (by decide +kernel), List.mem_of_getElem? (i := 1278) (by decide +kernel), List.mem_of_getElem? (i := 1279) (by decide +kernel)⟩
theorem lw_p55 : lw_okq (⟨"DebateHouseModel", "votes", "(IZ)V"⟩, 61) := ⟨⟨by decide +kernel, by decide +kernel⟩, List.mem_of_getElem? (i := 915) (by decide +kernel), List.mem_of_getElem? (i := 1285) (by decide +kernel), List.mem_of_getElem? (i := 1286) (by decide +kernel)⟩
theorem lw_p56 : lw_okq (⟨"DebateHouseModel", "papers", "(II)V"⟩, 61) := ⟨⟨by decide +kernel, by decide +kernel⟩, List.mem_of_getElem? (i := 915) (by decide +kernel), List.mem_of_getElem? (i := 1289) (by decide +kernel), List.mem_of_getElem? (i := 1290) (by decide +kernel)⟩
theorem lw_p57 : lw_okq (⟨"DebateHouseModel", "amends", "(II)V"⟩, 61) := ⟨⟨by decide +kernel, by decide +kernel⟩, List.mem_of_getElem? (i := 915) (by decide +kernel), List.mem_of_getElem? (i := 1293) (by decide +kernel), List.mem_of_getElem? (i := 1294) (by decide +kernel)⟩
theorem lw_p58 : lw_okq (⟨"DebateHouseModel", "behindGone", "(I)I"⟩, 61) := ⟨⟨by decide +kernel, by decide +kernel⟩, List.mem_of_getElem? (i := 915) (by decide +kernel), List.mem_of_getElem? (i := 1297) (by decide +kernel), List.mem_of_getElem? (i := 1298) (by decide +kernel)⟩
theorem lw_p59 : lw_okq (⟨"DebateHouseModel", "adds", "(II)V"⟩, 61) := ⟨⟨by decide +kernel, by decide +kernel⟩, List.mem_of_getElem? (i := 915) (by decide +kernel), List.mem_of_getElem? (i := 1301) (by decide +kernel), List.mem_of_getElem? (i := 1302) (by decide +kernel)⟩
theorem lw_p60 : lw_okq (⟨"DebateHouseModel", "goes", "(I)V"⟩, 61) := ⟨⟨by decide +kernel, by decide +kernel⟩, List.mem_of_getElem? (i := 915) (by decide +kernel), List.mem_of_getElem? (i := 1305) (by decide +kernel), List.mem_of_getElem? (i := 1306) (by decide +kernel)⟩
theorem lw_p61 : lw_okq (⟨"DebateHouseModel", "again", "(II)V"⟩, 61) := ⟨⟨by decide +kernel, by decide +kernel⟩, List.mem_of_getElem? (i := 915) (by decide +kernel), List.mem_of_getElem? (i := 1313) (by decide +kernel), List.mem_of_getElem? (i := 1314) (by decide +kernel)⟩
theorem lw_p62 : lw_okq (⟨"DebateHouseModel", "counts", "(II)Z"⟩, 61) := ⟨⟨by decide +kernel, by decide +kernel⟩, List.mem_of_getElem? (i := 915) (by decide +kernel), List.mem_of_getElem? (i := 1362) (by decide +kernel), List.mem_of_getElem? (i := 1363) (by decide +kernel)⟩
theorem lw_p63 : lw_okq (⟨"DebateHouseModel", "scaled", "(II)I"⟩, 61) := ⟨⟨by decide +kernel, by decide +kernel⟩, List.mem_of_getElem? (i := 915) (by decide +kernel), List.mem_of_getElem? (i := 1366) (by decide +kernel), List.mem_of_getElem? (i := 1367) (by decide +kernel)⟩
def lw_privs_4 : List (MethodName × Nat) := [(⟨"DebateHouseModel", "does", "(I)V"⟩, 61), (⟨"DebateHouseModel", "leaves", "(I)V"⟩, 61), (⟨"DebateHouseModel", "free", "()V"⟩, 61), (⟨"DebateHouseModel", "next", "([II[I)I"⟩, 61), (⟨"DebateHouseModel", "spoke", "(I[I)I"⟩, 61), (⟨"DebateHouseModel", "moves", "(I)V"⟩, 61), (⟨"DebateHouseModel", "isPassing", "(II)Z"⟩, 61), (⟨"DebateHouseModel", "votes", "(IZ)V"⟩, 61), (⟨"DebateHouseModel", "papers", "(II)V"⟩, 61), (⟨"DebateHouseModel", "amends", "(II)V"⟩, 61), (⟨"DebateHouseModel", "behindGone", "(I)I"⟩, 61), (⟨"DebateHouseModel", "adds", "(II)V"⟩, 61), (⟨"DebateHouseModel", "goes", "(I)V"⟩, 61), (⟨"DebateHouseModel", "again", "(II)V"⟩, 61), (⟨"DebateHouseModel", "counts", "(II)Z"⟩, 61), (⟨"DebateHouseModel", "scaled", "(II)I"⟩, 61)]
theorem lw_r4 : ∀ q ∈ lw_privs_4, lw_okq q := List.forall_mem_cons.mpr ⟨lw_p48, List.forall_mem_cons.mpr ⟨lw_p49, List.forall_mem_cons.mpr ⟨lw_p50, List.forall_mem_cons.mpr ⟨lw_p51, List.forall_mem_cons.mpr ⟨lw_p52, List.forall_mem_cons.mpr ⟨lw_p53, List.forall_mem_cons.mpr ⟨lw_p54, List.forall_mem_cons.mpr ⟨lw_p55, List.forall_mem_cons.mpr ⟨lw_p56, List.forall_mem_cons.mpr ⟨lw_p57, List.forall_mem_cons.mpr ⟨lw_p58, List.forall_mem_cons.mpr ⟨lw_p59, List.forall_mem_cons.mpr ⟨lw_p60, List.forall_mem_cons.mpr ⟨lw_p61, List.forall_mem_cons.mpr ⟨lw_p62, List.forall_mem_cons.mpr ⟨lw_p63, fun _ h => absurd h List.not_mem_nil⟩⟩⟩⟩⟩⟩⟩⟩⟩⟩⟩⟩⟩⟩⟩⟩
def lw_privs : List (MethodName × Nat) := lw_privs_1 ++ (lw_privs_2 ++ (lw_privs_3 ++ (lw_privs_4)))
def lw_tbl : List Cond := k2_sels lw_privs ++ tables_1
theorem lw_privs_ok : ∀ q ∈ lw_privs, lw_okq q := by
  show ∀ q ∈ lw_privs_1 ++ (lw_privs_2 ++ (lw_privs_3 ++ (lw_privs_4))), lw_okq q
  exact List.forall_mem_append.mpr ⟨lw_r1, List.forall_mem_append.mpr ⟨lw_r2, List.forall_mem_append.mpr ⟨lw_r3, lw_r4⟩⟩⟩
end
section
/-! ===== BEGIN printed: names, fields, word lists, decode rows ===== -/
def RX0 : String := "DebateHouse$Floor"
def TX0 : u_T := fun k => match k with
  | 0 => ("DebateHouse$Floor", "rules", "LDebateHouse$Rules;", true)
  | 1 => ("DebateHouse$Floor", "schoolOf", "[I", true)
  | 2 => ("DebateHouse$Floor", "queue", "[I", true)
  | 3 => ("DebateHouse$Floor", "speeches", "[I", true)
  | 4 => ("DebateHouse$Floor", "waiting", "I", false)
  | 5 => ("DebateHouse$Floor", "holder", "I", false)
  | 6 => ("DebateHouse$Floor", "left", "I", false)
  | _ => ("DebateHouse$Floor", "wasYielded", "Z", false)
def tyX0 : Nat → FieldType := fun k => match k with
  | 0 => .object "DebateHouse$Rules"
  | 1 => .array .int
  | 2 => .array .int
  | 3 => .array .int
  | 4 => .int
  | 5 => .int
  | 6 => .int
  | _ => .boolean
theorem nmX0 : ∀ a, a < 8 → ∀ b, b < 8 → a ≠ b → (TX0 a).2.1 ≠ (TX0 b).2.1 := by decide +kernel
theorem tyX0_ok : ∀ k, k < 8 → parseFieldDescriptor (TX0 k).2.2.1 = some (tyX0 k) := by decide +kernel
abbrev cX0_init : ByteArray := prog_2_method_1_code
def yX0_init : MethodName := ⟨RX0, "<init>", "(LDebateHouse$Rules;[I)V"⟩
abbrev cX0_clear : ByteArray := prog_2_method_2_code
def yX0_clear : MethodName := ⟨RX0, "clear", "()V"⟩
abbrev cX0_copyFrom : ByteArray := prog_2_method_3_code
def yX0_copyFrom : MethodName := ⟨RX0, "copyFrom", "(LDebateHouse$Floor;)V"⟩
abbrev cX0_setFree : ByteArray := prog_2_method_4_code
def yX0_setFree : MethodName := ⟨RX0, "setFree", "()V"⟩
abbrev cX0_queuePlaceOf : ByteArray := prog_2_method_5_code
def yX0_queuePlaceOf : MethodName := ⟨RX0, "queuePlaceOf", "(I)I"⟩
abbrev cX0_mayAsk : ByteArray := prog_2_method_6_code
def yX0_mayAsk : MethodName := ⟨RX0, "mayAsk", "(I)Z"⟩
abbrev cX0_mayYieldTo : ByteArray := prog_2_method_7_code
def yX0_mayYieldTo : MethodName := ⟨RX0, "mayYieldTo", "(I)Z"⟩
abbrev cX0_enqueue : ByteArray := prog_2_method_8_code
def yX0_enqueue : MethodName := ⟨RX0, "enqueue", "(I)V"⟩
abbrev cX0_dequeue : ByteArray := prog_2_method_9_code
def yX0_dequeue : MethodName := ⟨RX0, "dequeue", "(I)V"⟩
abbrev cX0_drop : ByteArray := prog_2_method_10_code
def yX0_drop : MethodName := ⟨RX0, "drop", "(I)V"⟩
abbrev cX0_callNext : ByteArray := prog_2_method_11_code
def yX0_callNext : MethodName := ⟨RX0, "callNext", "(I)V"⟩
abbrev cX0_yieldTo : ByteArray := prog_2_method_12_code
def yX0_yieldTo : MethodName := ⟨RX0, "yieldTo", "(I)V"⟩
abbrev cX0_spend : ByteArray := prog_2_method_13_code
def yX0_spend : MethodName := ⟨RX0, "spend", "(I)V"⟩
abbrev cX0_nextPlace : ByteArray := prog_2_method_14_code
def yX0_nextPlace : MethodName := ⟨RX0, "nextPlace", "()I"⟩
abbrev cX0_countedSpeeches : ByteArray := prog_2_method_15_code
def yX0_countedSpeeches : MethodName := ⟨RX0, "countedSpeeches", "(I)I"⟩
def RX1 : String := "DebateHouse$Jury"
def TX1 : u_T := fun k => match k with
  | 0 => ("DebateHouse$Jury", "schoolOf", "[I", true)
  | 1 => ("DebateHouse$Jury", "judgeSchool", "[I", true)
  | 2 => ("DebateHouse$Jury", "points", "[[I", true)
  | _ => ("DebateHouse$Jury", "means", "[I", true)
def tyX1 : Nat → FieldType := fun k => match k with
  | 0 => .array .int
  | 1 => .array .int
  | 2 => .array (.array .int)
  | _ => .array .int
theorem nmX1 : ∀ a, a < 4 → ∀ b, b < 4 → a ≠ b → (TX1 a).2.1 ≠ (TX1 b).2.1 := by decide +kernel
theorem tyX1_ok : ∀ k, k < 4 → parseFieldDescriptor (TX1 k).2.2.1 = some (tyX1 k) := by decide +kernel
abbrev cX1_init : ByteArray := prog_3_method_1_code
def yX1_init : MethodName := ⟨RX1, "<init>", "([I)V"⟩
abbrev cX1_take : ByteArray := prog_3_method_2_code
def yX1_take : MethodName := ⟨RX1, "take", "(IIII)Z"⟩
abbrev cX1_meanOf : ByteArray := prog_3_method_3_code
def yX1_meanOf : MethodName := ⟨RX1, "meanOf", "(I)I"⟩
abbrev cX1_memberAt : ByteArray := prog_3_method_4_code
def yX1_memberAt : MethodName := ⟨RX1, "memberAt", "(I)I"⟩
abbrev cX1_countAheadOf : ByteArray := prog_3_method_5_code
def yX1_countAheadOf : MethodName := ⟨RX1, "countAheadOf", "(I)I"⟩
abbrev cX1_counts : ByteArray := prog_3_method_6_code
def yX1_counts : MethodName := ⟨RX1, "counts", "(II)Z"⟩
abbrev cX1_scaled : ByteArray := prog_3_method_7_code
def yX1_scaled : MethodName := ⟨RX1, "scaled", "(II)I"⟩
def RX2 : String := "DebateHouse$Log"
def TX2 : u_T := fun k => match k with
  | 0 => ("DebateHouse$Log", "what", "[I", true)
  | 1 => ("DebateHouse$Log", "member", "[I", true)
  | 2 => ("DebateHouse$Log", "kind", "[I", true)
  | 3 => ("DebateHouse$Log", "a", "[I", true)
  | 4 => ("DebateHouse$Log", "b", "[I", true)
  | _ => ("DebateHouse$Log", "count", "I", false)
def tyX2 : Nat → FieldType := fun k => match k with
  | 0 => .array .int
  | 1 => .array .int
  | 2 => .array .int
  | 3 => .array .int
  | 4 => .array .int
  | _ => .int
theorem nmX2 : ∀ a, a < 6 → ∀ b, b < 6 → a ≠ b → (TX2 a).2.1 ≠ (TX2 b).2.1 := by decide +kernel
theorem tyX2_ok : ∀ k, k < 6 → parseFieldDescriptor (TX2 k).2.2.1 = some (tyX2 k) := by decide +kernel
abbrev cX2_init : ByteArray := prog_4_method_1_code
def yX2_init : MethodName := ⟨RX2, "<init>", "()V"⟩
abbrev cX2_add : ByteArray := prog_4_method_2_code
def yX2_add : MethodName := ⟨RX2, "add", "(IIIII)V"⟩
def RX3 : String := "DebateHouse$Motions"
def TX3 : u_T := fun k => match k with
  | 0 => ("DebateHouse$Motions", "rules", "LDebateHouse$Rules;", true)
  | 1 => ("DebateHouse$Motions", "kind", "[I", true)
  | 2 => ("DebateHouse$Motions", "mover", "[I", true)
  | 3 => ("DebateHouse$Motions", "a", "[I", true)
  | 4 => ("DebateHouse$Motions", "b", "[I", true)
  | 5 => ("DebateHouse$Motions", "meant", "[I", true)
  | 6 => ("DebateHouse$Motions", "seconded", "[Z", true)
  | 7 => ("DebateHouse$Motions", "debated", "[Z", true)
  | _ => ("DebateHouse$Motions", "count", "I", false)
def tyX3 : Nat → FieldType := fun k => match k with
  | 0 => .object "DebateHouse$Rules"
  | 1 => .array .int
  | 2 => .array .int
  | 3 => .array .int
  | 4 => .array .int
  | 5 => .array .int
  | 6 => .array .boolean
  | 7 => .array .boolean
  | _ => .int
theorem nmX3 : ∀ a, a < 9 → ∀ b, b < 9 → a ≠ b → (TX3 a).2.1 ≠ (TX3 b).2.1 := by decide +kernel
theorem tyX3_ok : ∀ k, k < 9 → parseFieldDescriptor (TX3 k).2.2.1 = some (tyX3 k) := by decide +kernel
abbrev cX3_init : ByteArray := prog_5_method_1_code
def yX3_init : MethodName := ⟨RX3, "<init>", "(LDebateHouse$Rules;)V"⟩
abbrev cX3_top : ByteArray := prog_5_method_2_code
def yX3_top : MethodName := ⟨RX3, "top", "()I"⟩
abbrev cX3_isFull : ByteArray := prog_5_method_3_code
def yX3_isFull : MethodName := ⟨RX3, "isFull", "()Z"⟩
abbrev cX3_has : ByteArray := prog_5_method_4_code
def yX3_has : MethodName := ⟨RX3, "has", "(I)Z"⟩
abbrev cX3_isOutrankedBy : ByteArray := prog_5_method_5_code
def yX3_isOutrankedBy : MethodName := ⟨RX3, "isOutrankedBy", "(I)Z"⟩
abbrev cX3_maySecond : ByteArray := prog_5_method_6_code
def yX3_maySecond : MethodName := ⟨RX3, "maySecond", "(I)Z"⟩
abbrev cX3_mayDecide : ByteArray := prog_5_method_7_code
def yX3_mayDecide : MethodName := ⟨RX3, "mayDecide", "(Z)Z"⟩
abbrev cX3_push : ByteArray := prog_5_method_8_code
def yX3_push : MethodName := ⟨RX3, "push", "(IIIII)V"⟩
abbrev cX3_secondTop : ByteArray := prog_5_method_9_code
def yX3_secondTop : MethodName := ⟨RX3, "secondTop", "()V"⟩
abbrev cX3_debateTop : ByteArray := prog_5_method_10_code
def yX3_debateTop : MethodName := ⟨RX3, "debateTop", "()V"⟩
abbrev cX3_endDebate : ByteArray := prog_5_method_11_code
def yX3_endDebate : MethodName := ⟨RX3, "endDebate", "()V"⟩
abbrev cX3_tell : ByteArray := prog_5_method_12_code
def yX3_tell : MethodName := ⟨RX3, "tell", "(II)I"⟩
def RX4 : String := "DebateHouse$Paper"
def TX4 : u_T := fun k => match k with
  | 0 => ("DebateHouse$Paper", "order", "[I", true)
  | 1 => ("DebateHouse$Paper", "text", "[I", true)
  | 2 => ("DebateHouse$Paper", "cameBeforeItWent", "[I", true)
  | 3 => ("DebateHouse$Paper", "laid", "Z", false)
  | 4 => ("DebateHouse$Paper", "ever", "I", false)
  | _ => ("DebateHouse$Paper", "there", "I", false)
def tyX4 : Nat → FieldType := fun k => match k with
  | 0 => .array .int
  | 1 => .array .int
  | 2 => .array .int
  | 3 => .boolean
  | 4 => .int
  | _ => .int
theorem nmX4 : ∀ a, a < 6 → ∀ b, b < 6 → a ≠ b → (TX4 a).2.1 ≠ (TX4 b).2.1 := by decide +kernel
theorem tyX4_ok : ∀ k, k < 6 → parseFieldDescriptor (TX4 k).2.2.1 = some (tyX4 k) := by decide +kernel
abbrev cX4_init : ByteArray := prog_6_method_1_code
def yX4_init : MethodName := ⟨RX4, "<init>", "()V"⟩
abbrev cX4_takeAway : ByteArray := prog_6_method_2_code
def yX4_takeAway : MethodName := ⟨RX4, "takeAway", "()V"⟩
abbrev cX4_lay : ByteArray := prog_6_method_3_code
def yX4_lay : MethodName := ⟨RX4, "lay", "(II)V"⟩
abbrev cX4_wasEver : ByteArray := prog_6_method_4_code
def yX4_wasEver : MethodName := ⟨RX4, "wasEver", "(I)Z"⟩
abbrev cX4_isThere : ByteArray := prog_6_method_5_code
def yX4_isThere : MethodName := ⟨RX4, "isThere", "(I)Z"⟩
abbrev cX4_mayAmend : ByteArray := prog_6_method_6_code
def yX4_mayAmend : MethodName := ⟨RX4, "mayAmend", "(I)Z"⟩
abbrev cX4_amend : ByteArray := prog_6_method_7_code
def yX4_amend : MethodName := ⟨RX4, "amend", "(II)V"⟩
abbrev cX4_numberAt : ByteArray := prog_6_method_8_code
def yX4_numberAt : MethodName := ⟨RX4, "numberAt", "(I)I"⟩
abbrev cX4_placeOf : ByteArray := prog_6_method_9_code
def yX4_placeOf : MethodName := ⟨RX4, "placeOf", "(I)I"⟩
abbrev cX4_textOf : ByteArray := prog_6_method_10_code
def yX4_textOf : MethodName := ⟨RX4, "textOf", "(I)I"⟩
abbrev cX4_remove : ByteArray := prog_6_method_11_code
def yX4_remove : MethodName := ⟨RX4, "remove", "(I)V"⟩
abbrev cX4_behind : ByteArray := prog_6_method_12_code
def yX4_behind : MethodName := ⟨RX4, "behind", "(I)I"⟩
abbrev cX4_addBehind : ByteArray := prog_6_method_13_code
def yX4_addBehind : MethodName := ⟨RX4, "addBehind", "(II)V"⟩
abbrev cX4_insert : ByteArray := prog_6_method_14_code
def yX4_insert : MethodName := ⟨RX4, "insert", "(II)V"⟩
def RX5 : String := "DebateHouse$Reader"
def TX5 : u_T := fun k => match k with
  | 0 => ("DebateHouse$Reader", "tape", "LDebateHouse$Tape;", true)
  | 1 => ("DebateHouse$Reader", "draft", "LDebateHouse$Rules;", true)
  | 2 => ("DebateHouse$Reader", "at", "I", false)
  | 3 => ("DebateHouse$Reader", "fault", "I", false)
  | _ => ("DebateHouse$Reader", "clausesTold", "I", false)
def tyX5 : Nat → FieldType := fun k => match k with
  | 0 => .object "DebateHouse$Tape"
  | 1 => .object "DebateHouse$Rules"
  | 2 => .int
  | 3 => .int
  | _ => .int
theorem nmX5 : ∀ a, a < 5 → ∀ b, b < 5 → a ≠ b → (TX5 a).2.1 ≠ (TX5 b).2.1 := by decide +kernel
theorem tyX5_ok : ∀ k, k < 5 → parseFieldDescriptor (TX5 k).2.2.1 = some (tyX5 k) := by decide +kernel
abbrev cX5_init : ByteArray := prog_7_method_1_code
def yX5_init : MethodName := ⟨RX5, "<init>", "(LDebateHouse$Tape;LDebateHouse$Rules;)V"⟩
abbrev cX5_readTape : ByteArray := prog_7_method_2_code
def yX5_readTape : MethodName := ⟨RX5, "readTape", "()I"⟩
abbrev cX5_readClause : ByteArray := prog_7_method_3_code
def yX5_readClause : MethodName := ⟨RX5, "readClause", "()V"⟩
abbrev cX5_readMotion : ByteArray := prog_7_method_4_code
def yX5_readMotion : MethodName := ⟨RX5, "readMotion", "()V"⟩
abbrev cX5_readKind : ByteArray := prog_7_method_5_code
def yX5_readKind : MethodName := ⟨RX5, "readKind", "()I"⟩
abbrev cX5_readWay : ByteArray := prog_7_method_6_code
def yX5_readWay : MethodName := ⟨RX5, "readWay", "()I"⟩
abbrev cX5_readChoice : ByteArray := prog_7_method_7_code
def yX5_readChoice : MethodName := ⟨RX5, "readChoice", "(Ljava/lang/String;Ljava/lang/String;)Z"⟩
abbrev cX5_readNumber : ByteArray := prog_7_method_8_code
def yX5_readNumber : MethodName := ⟨RX5, "readNumber", "(II)I"⟩
abbrev cX5_tellOnce : ByteArray := prog_7_method_9_code
def yX5_tellOnce : MethodName := ⟨RX5, "tellOnce", "(II)V"⟩
abbrev cX5_expectWord : ByteArray := prog_7_method_10_code
def yX5_expectWord : MethodName := ⟨RX5, "expectWord", "(Ljava/lang/String;)V"⟩
abbrev cX5_expectSemicolon : ByteArray := prog_7_method_11_code
def yX5_expectSemicolon : MethodName := ⟨RX5, "expectSemicolon", "()V"⟩
abbrev cX5_tookWord : ByteArray := prog_7_method_12_code
def yX5_tookWord : MethodName := ⟨RX5, "tookWord", "(Ljava/lang/String;)Z"⟩
abbrev cX5_skipBlanks : ByteArray := prog_7_method_13_code
def yX5_skipBlanks : MethodName := ⟨RX5, "skipBlanks", "()V"⟩
abbrev cX5_fail : ByteArray := prog_7_method_14_code
def yX5_fail : MethodName := ⟨RX5, "fail", "(II)V"⟩
abbrev cX5_isSmallLetter : ByteArray := prog_7_method_15_code
def yX5_isSmallLetter : MethodName := ⟨RX5, "isSmallLetter", "(I)Z"⟩
abbrev cX5_isDigit : ByteArray := prog_7_method_16_code
def yX5_isDigit : MethodName := ⟨RX5, "isDigit", "(I)Z"⟩
abbrev cX5_kindWord : ByteArray := prog_7_method_17_code
def yX5_kindWord : MethodName := ⟨RX5, "kindWord", "(I)Ljava/lang/String;"⟩
abbrev cX5_wayWord : ByteArray := prog_7_method_18_code
def yX5_wayWord : MethodName := ⟨RX5, "wayWord", "(I)Ljava/lang/String;"⟩
def RX6 : String := "DebateHouse$Rules"
def TX6 : u_T := fun k => match k with
  | 0 => ("DebateHouse$Rules", "rank", "[I", true)
  | 1 => ("DebateHouse$Rules", "way", "[I", true)
  | 2 => ("DebateHouse$Rules", "needsSecond", "[Z", true)
  | 3 => ("DebateHouse$Rules", "needsDebate", "[Z", true)
  | 4 => ("DebateHouse$Rules", "time", "I", false)
  | 5 => ("DebateHouse$Rules", "quorum", "I", false)
  | 6 => ("DebateHouse$Rules", "turnsBySchools", "Z", false)
  | _ => ("DebateHouse$Rules", "yieldsLet", "Z", false)
def tyX6 : Nat → FieldType := fun k => match k with
  | 0 => .array .int
  | 1 => .array .int
  | 2 => .array .boolean
  | 3 => .array .boolean
  | 4 => .int
  | 5 => .int
  | 6 => .boolean
  | _ => .boolean
theorem nmX6 : ∀ a, a < 8 → ∀ b, b < 8 → a ≠ b → (TX6 a).2.1 ≠ (TX6 b).2.1 := by decide +kernel
theorem tyX6_ok : ∀ k, k < 8 → parseFieldDescriptor (TX6 k).2.2.1 = some (tyX6 k) := by decide +kernel
abbrev cX6_init : ByteArray := prog_8_method_1_code
def yX6_init : MethodName := ⟨RX6, "<init>", "()V"⟩
abbrev cX6_clear : ByteArray := prog_8_method_2_code
def yX6_clear : MethodName := ⟨RX6, "clear", "()V"⟩
abbrev cX6_copyFrom : ByteArray := prog_8_method_3_code
def yX6_copyFrom : MethodName := ⟨RX6, "copyFrom", "(LDebateHouse$Rules;)V"⟩
abbrev cX6_lets : ByteArray := prog_8_method_4_code
def yX6_lets : MethodName := ⟨RX6, "lets", "(I)Z"⟩
abbrev cX6_rankOf : ByteArray := prog_8_method_5_code
def yX6_rankOf : MethodName := ⟨RX6, "rankOf", "(I)I"⟩
def RX7 : String := "DebateHouse$Session"
def TX7 : u_T := fun k => match k with
  | 0 => ("DebateHouse$Session", "rules", "LDebateHouse$Rules;", true)
  | 1 => ("DebateHouse$Session", "log", "LDebateHouse$Log;", true)
  | 2 => ("DebateHouse$Session", "floor", "LDebateHouse$Floor;", true)
  | 3 => ("DebateHouse$Session", "motions", "LDebateHouse$Motions;", true)
  | 4 => ("DebateHouse$Session", "paper", "LDebateHouse$Paper;", true)
  | 5 => ("DebateHouse$Session", "rulings", "[I", true)
  | 6 => ("DebateHouse$Session", "passes", "[I", true)
  | 7 => ("DebateHouse$Session", "overturns", "[Z", true)
  | 8 => ("DebateHouse$Session", "appealDecided", "[Z", true)
  | 9 => ("DebateHouse$Session", "worked", "I", false)
  | 10 => ("DebateHouse$Session", "latestRefused", "I", false)
  | 11 => ("DebateHouse$Session", "there", "I", false)
  | 12 => ("DebateHouse$Session", "time", "I", false)
  | 13 => ("DebateHouse$Session", "recess", "I", false)
  | 14 => ("DebateHouse$Session", "ticks", "I", false)
  | _ => ("DebateHouse$Session", "over", "Z", false)
def tyX7 : Nat → FieldType := fun k => match k with
  | 0 => .object "DebateHouse$Rules"
  | 1 => .object "DebateHouse$Log"
  | 2 => .object "DebateHouse$Floor"
  | 3 => .object "DebateHouse$Motions"
  | 4 => .object "DebateHouse$Paper"
  | 5 => .array .int
  | 6 => .array .int
  | 7 => .array .boolean
  | 8 => .array .boolean
  | 9 => .int
  | 10 => .int
  | 11 => .int
  | 12 => .int
  | 13 => .int
  | 14 => .int
  | _ => .boolean
theorem nmX7 : ∀ a, a < 16 → ∀ b, b < 16 → a ≠ b → (TX7 a).2.1 ≠ (TX7 b).2.1 := by decide +kernel
theorem tyX7_ok : ∀ k, k < 16 → parseFieldDescriptor (TX7 k).2.2.1 = some (tyX7 k) := by decide +kernel
abbrev cX7_init : ByteArray := prog_9_method_1_code
def yX7_init : MethodName := ⟨RX7, "<init>", "(LDebateHouse$Rules;[ILDebateHouse$Log;)V"⟩
abbrev cX7_startAnew : ByteArray := prog_9_method_2_code
def yX7_startAnew : MethodName := ⟨RX7, "startAnew", "()V"⟩
abbrev cX7_work : ByteArray := prog_9_method_3_code
def yX7_work : MethodName := ⟨RX7, "work", "(IZ)Z"⟩
abbrev cX7_rulingOf : ByteArray := prog_9_method_4_code
def yX7_rulingOf : MethodName := ⟨RX7, "rulingOf", "(I)I"⟩
abbrev cX7_passedOf : ByteArray := prog_9_method_5_code
def yX7_passedOf : MethodName := ⟨RX7, "passedOf", "(I)I"⟩
abbrev cX7_overturnedOf : ByteArray := prog_9_method_6_code
def yX7_overturnedOf : MethodName := ⟨RX7, "overturnedOf", "(I)I"⟩
abbrev cX7_tell : ByteArray := prog_9_method_7_code
def yX7_tell : MethodName := ⟨RX7, "tell", "(I)I"⟩
abbrev cX7_isWorked : ByteArray := prog_9_method_8_code
def yX7_isWorked : MethodName := ⟨RX7, "isWorked", "(I)Z"⟩
abbrev cX7_isThere : ByteArray := prog_9_method_9_code
def yX7_isThere : MethodName := ⟨RX7, "isThere", "(I)Z"⟩
abbrev cX7_refusalAtLarge : ByteArray := prog_9_method_10_code
def yX7_refusalAtLarge : MethodName := ⟨RX7, "refusalAtLarge", "(I)I"⟩
abbrev cX7_isOfMember : ByteArray := prog_9_method_11_code
def yX7_isOfMember : MethodName := ⟨RX7, "isOfMember", "(I)Z"⟩
abbrev cX7_numbersAreAsTold : ByteArray := prog_9_method_12_code
def yX7_numbersAreAsTold : MethodName := ⟨RX7, "numbersAreAsTold", "(I)Z"⟩
abbrev cX7_isInOrder : ByteArray := prog_9_method_13_code
def yX7_isInOrder : MethodName := ⟨RX7, "isInOrder", "(I)Z"⟩
abbrev cX7_mayMove : ByteArray := prog_9_method_14_code
def yX7_mayMove : MethodName := ⟨RX7, "mayMove", "(I)Z"⟩
abbrev cX7_mayMoveKind : ByteArray := prog_9_method_15_code
def yX7_mayMoveKind : MethodName := ⟨RX7, "mayMoveKind", "(II)Z"⟩
abbrev cX7_mayAppeal : ByteArray := prog_9_method_16_code
def yX7_mayAppeal : MethodName := ⟨RX7, "mayAppeal", "()Z"⟩
abbrev cX7_hasOther : ByteArray := prog_9_method_17_code
def yX7_hasOther : MethodName := ⟨RX7, "hasOther", "(II)Z"⟩
abbrev cX7_perform : ByteArray := prog_9_method_18_code
def yX7_perform : MethodName := ⟨RX7, "perform", "(I)V"⟩
abbrev cX7_letTicksGo : ByteArray := prog_9_method_19_code
def yX7_letTicksGo : MethodName := ⟨RX7, "letTicksGo", "(I)V"⟩
abbrev cX7_decide : ByteArray := prog_9_method_20_code
def yX7_decide : MethodName := ⟨RX7, "decide", "(I)V"⟩
abbrev cX7_isCarried : ByteArray := prog_9_method_21_code
def yX7_isCarried : MethodName := ⟨RX7, "isCarried", "(III)Z"⟩
abbrev cX7_settleAppeal : ByteArray := prog_9_method_22_code
def yX7_settleAppeal : MethodName := ⟨RX7, "settleAppeal", "(IZ)V"⟩
abbrev cX7_carryOut : ByteArray := prog_9_method_23_code
def yX7_carryOut : MethodName := ⟨RX7, "carryOut", "(III)V"⟩
def RX8 : String := "DebateHouse$Tape"
def TX8 : u_T := fun k => match k with
  | 0 => ("DebateHouse$Tape", "bytes", "[B", true)
  | _ => ("DebateHouse$Tape", "length", "I", false)
def tyX8 : Nat → FieldType := fun k => match k with
  | 0 => .array .byte
  | _ => .int
theorem nmX8 : ∀ a, a < 2 → ∀ b, b < 2 → a ≠ b → (TX8 a).2.1 ≠ (TX8 b).2.1 := by decide +kernel
theorem tyX8_ok : ∀ k, k < 2 → parseFieldDescriptor (TX8 k).2.2.1 = some (tyX8 k) := by decide +kernel
abbrev cX8_init : ByteArray := prog_10_method_1_code
def yX8_init : MethodName := ⟨RX8, "<init>", "()V"⟩
abbrev cX8_append : ByteArray := prog_10_method_2_code
def yX8_append : MethodName := ⟨RX8, "append", "(I)V"⟩
abbrev cX8_byteAt : ByteArray := prog_10_method_3_code
def yX8_byteAt : MethodName := ⟨RX8, "byteAt", "(I)I"⟩
def RX9 : String := "DebateHouse"
def TX9 : u_T := fun k => match k with
  | 0 => ("DebateHouse", "tape", "LDebateHouse$Tape;", true)
  | 1 => ("DebateHouse", "law", "LDebateHouse$Rules;", true)
  | 2 => ("DebateHouse", "draft", "LDebateHouse$Rules;", true)
  | 3 => ("DebateHouse", "reader", "LDebateHouse$Reader;", true)
  | 4 => ("DebateHouse", "schools", "[I", true)
  | 5 => ("DebateHouse", "log", "LDebateHouse$Log;", true)
  | 6 => ("DebateHouse", "live", "LDebateHouse$Session;", true)
  | 7 => ("DebateHouse", "anew", "LDebateHouse$Session;", true)
  | 8 => ("DebateHouse", "trial", "LDebateHouse$Floor;", true)
  | _ => ("DebateHouse", "jury", "LDebateHouse$Jury;", true)
def tyX9 : Nat → FieldType := fun k => match k with
  | 0 => .object "DebateHouse$Tape"
  | 1 => .object "DebateHouse$Rules"
  | 2 => .object "DebateHouse$Rules"
  | 3 => .object "DebateHouse$Reader"
  | 4 => .array .int
  | 5 => .object "DebateHouse$Log"
  | 6 => .object "DebateHouse$Session"
  | 7 => .object "DebateHouse$Session"
  | 8 => .object "DebateHouse$Floor"
  | _ => .object "DebateHouse$Jury"
theorem nmX9 : ∀ a, a < 10 → ∀ b, b < 10 → a ≠ b → (TX9 a).2.1 ≠ (TX9 b).2.1 := by decide +kernel
theorem tyX9_ok : ∀ k, k < 10 → parseFieldDescriptor (TX9 k).2.2.1 = some (tyX9 k) := by decide +kernel
abbrev cX9_init : ByteArray := prog_1_method_1_code
def yX9_init : MethodName := ⟨RX9, "<init>", "()V"⟩
abbrev cX9_feed : ByteArray := prog_1_method_2_code
def yX9_feed : MethodName := ⟨RX9, "feed", "(IIIII)I"⟩
abbrev cX9_end : ByteArray := prog_1_method_3_code
def yX9_end : MethodName := ⟨RX9, "end", "(I)I"⟩
abbrev cX9_rules : ByteArray := prog_1_method_4_code
def yX9_rules : MethodName := ⟨RX9, "rules", "()I"⟩
abbrev cX9_school : ByteArray := prog_1_method_5_code
def yX9_school : MethodName := ⟨RX9, "school", "(II)Z"⟩
abbrev cX9_act : ByteArray := prog_1_method_6_code
def yX9_act : MethodName := ⟨RX9, "act", "(IIIII)I"⟩
abbrev cX9_ruling : ByteArray := prog_1_method_7_code
def yX9_ruling : MethodName := ⟨RX9, "ruling", "(I)I"⟩
abbrev cX9_passed : ByteArray := prog_1_method_8_code
def yX9_passed : MethodName := ⟨RX9, "passed", "(I)I"⟩
abbrev cX9_state : ByteArray := prog_1_method_9_code
def yX9_state : MethodName := ⟨RX9, "state", "(I)I"⟩
abbrev cX9_pending : ByteArray := prog_1_method_10_code
def yX9_pending : MethodName := ⟨RX9, "pending", "(II)I"⟩
abbrev cX9_clause : ByteArray := prog_1_method_11_code
def yX9_clause : MethodName := ⟨RX9, "clause", "(II)I"⟩
abbrev cX9_place : ByteArray := prog_1_method_12_code
def yX9_place : MethodName := ⟨RX9, "place", "(I)I"⟩
abbrev cX9_speeches : ByteArray := prog_1_method_13_code
def yX9_speeches : MethodName := ⟨RX9, "speeches", "(I)I"⟩
abbrev cX9_waits : ByteArray := prog_1_method_14_code
def yX9_waits : MethodName := ⟨RX9, "waits", "(I)I"⟩
abbrev cX9_overturned : ByteArray := prog_1_method_15_code
def yX9_overturned : MethodName := ⟨RX9, "overturned", "(I)I"⟩
abbrev cX9_beside : ByteArray := prog_1_method_16_code
def yX9_beside : MethodName := ⟨RX9, "beside", "(II)I"⟩
abbrev cX9_score : ByteArray := prog_1_method_17_code
def yX9_score : MethodName := ⟨RX9, "score", "(IIII)Z"⟩
abbrev cX9_mean : ByteArray := prog_1_method_18_code
def yX9_mean : MethodName := ⟨RX9, "mean", "(I)I"⟩
abbrev cX9_award : ByteArray := prog_1_method_19_code
def yX9_award : MethodName := ⟨RX9, "award", "(I)I"⟩
abbrev cX9_told : ByteArray := prog_1_method_20_code
def yX9_told : MethodName := ⟨RX9, "told", "(I)I"⟩
abbrev cX9_isMember : ByteArray := prog_1_method_21_code
def yX9_isMember : MethodName := ⟨RX9, "isMember", "(I)Z"⟩
abbrev cX9_isSchool : ByteArray := prog_1_method_22_code
def yX9_isSchool : MethodName := ⟨RX9, "isSchool", "(I)Z"⟩
abbrev cX9_isKind : ByteArray := prog_1_method_23_code
def yX9_isKind : MethodName := ⟨RX9, "isKind", "(I)Z"⟩
abbrev cX9_isActNumber : ByteArray := prog_1_method_24_code
def yX9_isActNumber : MethodName := ⟨RX9, "isActNumber", "(I)Z"⟩
def RX10 : String := "DebateHouseModel"
def TX10 : u_T := fun k => match k with
  | 0 => ("DebateHouseModel", "thrown", "I", false)
  | 1 => ("DebateHouseModel", "tape", "[B", true)
  | 2 => ("DebateHouseModel", "taped", "I", false)
  | 3 => ("DebateHouseModel", "at", "I", false)
  | 4 => ("DebateHouseModel", "from", "I", false)
  | 5 => ("DebateHouseModel", "fault", "I", false)
  | 6 => ("DebateHouseModel", "told", "[Z", true)
  | 7 => ("DebateHouseModel", "rank", "[[I", true)
  | 8 => ("DebateHouseModel", "way", "[[I", true)
  | 9 => ("DebateHouseModel", "needsSecond", "[[Z", true)
  | 10 => ("DebateHouseModel", "hasDebate", "[[Z", true)
  | 11 => ("DebateHouseModel", "time", "[I", true)
  | 12 => ("DebateHouseModel", "quorum", "[I", true)
  | 13 => ("DebateHouseModel", "bySchools", "[Z", true)
  | 14 => ("DebateHouseModel", "yields", "[Z", true)
  | 15 => ("DebateHouseModel", "school", "[I", true)
  | 16 => ("DebateHouseModel", "acts", "I", false)
  | 17 => ("DebateHouseModel", "what", "[I", true)
  | 18 => ("DebateHouseModel", "who", "[I", true)
  | 19 => ("DebateHouseModel", "kind", "[I", true)
  | 20 => ("DebateHouseModel", "first", "[I", true)
  | 21 => ("DebateHouseModel", "second", "[I", true)
  | 22 => ("DebateHouseModel", "ruling", "[[I", true)
  | 23 => ("DebateHouseModel", "passed", "[[I", true)
  | 24 => ("DebateHouseModel", "overturned", "[[Z", true)
  | 25 => ("DebateHouseModel", "side", "I", false)
  | 26 => ("DebateHouseModel", "forced", "I", false)
  | 27 => ("DebateHouseModel", "isNothing", "Z", false)
  | 28 => ("DebateHouseModel", "isThere", "[Z", true)
  | 29 => ("DebateHouseModel", "queue", "[I", true)
  | 30 => ("DebateHouseModel", "speeches", "[I", true)
  | 31 => ("DebateHouseModel", "queued", "I", false)
  | 32 => ("DebateHouseModel", "floor", "I", false)
  | 33 => ("DebateHouseModel", "left", "I", false)
  | 34 => ("DebateHouseModel", "ticks", "I", false)
  | 35 => ("DebateHouseModel", "now", "I", false)
  | 36 => ("DebateHouseModel", "rest", "I", false)
  | 37 => ("DebateHouseModel", "wasYielded", "Z", false)
  | 38 => ("DebateHouseModel", "isOver", "Z", false)
  | 39 => ("DebateHouseModel", "pending", "I", false)
  | 40 => ("DebateHouseModel", "pKind", "[I", true)
  | 41 => ("DebateHouseModel", "pMover", "[I", true)
  | 42 => ("DebateHouseModel", "pA", "[I", true)
  | 43 => ("DebateHouseModel", "pB", "[I", true)
  | 44 => ("DebateHouseModel", "pOf", "[I", true)
  | 45 => ("DebateHouseModel", "pSecond", "[Z", true)
  | 46 => ("DebateHouseModel", "pDebate", "[Z", true)
  | 47 => ("DebateHouseModel", "wasAppealed", "[Z", true)
  | 48 => ("DebateHouseModel", "hasPaper", "Z", false)
  | 49 => ("DebateHouseModel", "clauses", "I", false)
  | 50 => ("DebateHouseModel", "numbers", "I", false)
  | 51 => ("DebateHouseModel", "number", "[I", true)
  | 52 => ("DebateHouseModel", "text", "[I", true)
  | 53 => ("DebateHouseModel", "aheadMany", "[I", true)
  | 54 => ("DebateHouseModel", "ahead", "[[I", true)
  | 55 => ("DebateHouseModel", "row", "[I", true)
  | 56 => ("DebateHouseModel", "by", "[I", true)
  | 57 => ("DebateHouseModel", "judgeSchool", "[I", true)
  | 58 => ("DebateHouseModel", "score", "[[I", true)
  | 59 => ("DebateHouseModel", "hasScore", "[[Z", true)
  | _ => ("DebateHouseModel", "gone", "[Z", true)
def tyX10 : Nat → FieldType := fun k => match k with
  | 0 => .int
  | 1 => .array .byte
  | 2 => .int
  | 3 => .int
  | 4 => .int
  | 5 => .int
  | 6 => .array .boolean
  | 7 => .array (.array .int)
  | 8 => .array (.array .int)
  | 9 => .array (.array .boolean)
  | 10 => .array (.array .boolean)
  | 11 => .array .int
  | 12 => .array .int
  | 13 => .array .boolean
  | 14 => .array .boolean
  | 15 => .array .int
  | 16 => .int
  | 17 => .array .int
  | 18 => .array .int
  | 19 => .array .int
  | 20 => .array .int
  | 21 => .array .int
  | 22 => .array (.array .int)
  | 23 => .array (.array .int)
  | 24 => .array (.array .boolean)
  | 25 => .int
  | 26 => .int
  | 27 => .boolean
  | 28 => .array .boolean
  | 29 => .array .int
  | 30 => .array .int
  | 31 => .int
  | 32 => .int
  | 33 => .int
  | 34 => .int
  | 35 => .int
  | 36 => .int
  | 37 => .boolean
  | 38 => .boolean
  | 39 => .int
  | 40 => .array .int
  | 41 => .array .int
  | 42 => .array .int
  | 43 => .array .int
  | 44 => .array .int
  | 45 => .array .boolean
  | 46 => .array .boolean
  | 47 => .array .boolean
  | 48 => .boolean
  | 49 => .int
  | 50 => .int
  | 51 => .array .int
  | 52 => .array .int
  | 53 => .array .int
  | 54 => .array (.array .int)
  | 55 => .array .int
  | 56 => .array .int
  | 57 => .array .int
  | 58 => .array (.array .int)
  | 59 => .array (.array .boolean)
  | _ => .array .boolean
theorem nmX10 : ∀ a, a < 61 → ∀ b, b < 61 → a ≠ b → (TX10 a).2.1 ≠ (TX10 b).2.1 := by decide +kernel
theorem tyX10_ok : ∀ k, k < 61 → parseFieldDescriptor (TX10 k).2.2.1 = some (tyX10 k) := by decide +kernel
abbrev cX10_init : ByteArray := prog_12_method_1_code
def yX10_init : MethodName := ⟨RX10, "<init>", "()V"⟩
abbrev cX10_in : ByteArray := prog_12_method_3_code
def yX10_in : MethodName := ⟨RX10, "in", "(III)Z"⟩
abbrev cX10_feed : ByteArray := prog_12_method_4_code
def yX10_feed : MethodName := ⟨RX10, "feed", "(IIIII)I"⟩
abbrev cX10_put : ByteArray := prog_12_method_5_code
def yX10_put : MethodName := ⟨RX10, "put", "(I)V"⟩
abbrev cX10_end : ByteArray := prog_12_method_6_code
def yX10_end : MethodName := ⟨RX10, "end", "(I)I"⟩
abbrev cX10_fails : ByteArray := prog_12_method_7_code
def yX10_fails : MethodName := ⟨RX10, "fails", "(II)V"⟩
abbrev cX10_isEnd : ByteArray := prog_12_method_8_code
def yX10_isEnd : MethodName := ⟨RX10, "isEnd", "()Z"⟩
abbrev cX10_isLetter : ByteArray := prog_12_method_9_code
def yX10_isLetter : MethodName := ⟨RX10, "isLetter", "()Z"⟩
abbrev cX10_word : ByteArray := prog_12_method_10_code
def yX10_word : MethodName := ⟨RX10, "word", "()V"⟩
abbrev cX10_is : ByteArray := prog_12_method_11_code
def yX10_is : MethodName := ⟨RX10, "is", "(Ljava/lang/String;)Z"⟩
abbrev cX10_number : ByteArray := prog_12_method_12_code
def yX10_number : MethodName := ⟨RX10, "number", "(II)I"⟩
abbrev cX10_kindOf : ByteArray := prog_12_method_13_code
def yX10_kindOf : MethodName := ⟨RX10, "kindOf", "(I)Ljava/lang/String;"⟩
abbrev cX10_wayOf : ByteArray := prog_12_method_14_code
def yX10_wayOf : MethodName := ⟨RX10, "wayOf", "(I)Ljava/lang/String;"⟩
abbrev cX10_clauseOf : ByteArray := prog_12_method_15_code
def yX10_clauseOf : MethodName := ⟨RX10, "clauseOf", "(I)Ljava/lang/String;"⟩
abbrev cX10_one : ByteArray := prog_12_method_16_code
def yX10_one : MethodName := ⟨RX10, "one", "(Ljava/lang/String;Ljava/lang/String;)Z"⟩
abbrev cX10_motion : ByteArray := prog_12_method_17_code
def yX10_motion : MethodName := ⟨RX10, "motion", "()V"⟩
abbrev cX10_clause : ByteArray := prog_12_method_18_code
def yX10_clause : MethodName := ⟨RX10, "clause", "()V"⟩
abbrev cX10_rules : ByteArray := prog_12_method_19_code
def yX10_rules : MethodName := ⟨RX10, "rules", "()I"⟩
abbrev cX10_school : ByteArray := prog_12_method_20_code
def yX10_school : MethodName := ⟨RX10, "school", "(II)Z"⟩
abbrev cX10_begin : ByteArray := prog_12_method_21_code
def yX10_begin : MethodName := ⟨RX10, "begin", "()V"⟩
abbrev cX10_there : ByteArray := prog_12_method_22_code
def yX10_there : MethodName := ⟨RX10, "there", "()I"⟩
abbrev cX10_waitsFor : ByteArray := prog_12_method_23_code
def yX10_waitsFor : MethodName := ⟨RX10, "waitsFor", "(I)Z"⟩
abbrev cX10_leaves : ByteArray := prog_12_method_24_code
def yX10_leaves : MethodName := ⟨RX10, "leaves", "(I)V"⟩
abbrev cX10_free : ByteArray := prog_12_method_25_code
def yX10_free : MethodName := ⟨RX10, "free", "()V"⟩
abbrev cX10_spoke : ByteArray := prog_12_method_26_code
def yX10_spoke : MethodName := ⟨RX10, "spoke", "(I[I)I"⟩
abbrev cX10_next : ByteArray := prog_12_method_27_code
def yX10_next : MethodName := ⟨RX10, "next", "([II[I)I"⟩
abbrev cX10_rule : ByteArray := prog_12_method_28_code
def yX10_rule : MethodName := ⟨RX10, "rule", "(I)I"⟩
abbrev cX10_isWrong : ByteArray := prog_12_method_29_code
def yX10_isWrong : MethodName := ⟨RX10, "isWrong", "(II)Z"⟩
abbrev cX10_isInOrder : ByteArray := prog_12_method_30_code
def yX10_isInOrder : MethodName := ⟨RX10, "isInOrder", "(III)Z"⟩
abbrev cX10_refused : ByteArray := prog_12_method_31_code
def yX10_refused : MethodName := ⟨RX10, "refused", "(I)I"⟩
abbrev cX10_mayMove : ByteArray := prog_12_method_32_code
def yX10_mayMove : MethodName := ⟨RX10, "mayMove", "(II)Z"⟩
abbrev cX10_placeOf : ByteArray := prog_12_method_33_code
def yX10_placeOf : MethodName := ⟨RX10, "placeOf", "(I)I"⟩
abbrev cX10_mayAmend : ByteArray := prog_12_method_34_code
def yX10_mayAmend : MethodName := ⟨RX10, "mayAmend", "(I)Z"⟩
abbrev cX10_does : ByteArray := prog_12_method_35_code
def yX10_does : MethodName := ⟨RX10, "does", "(I)V"⟩
abbrev cX10_moves : ByteArray := prog_12_method_36_code
def yX10_moves : MethodName := ⟨RX10, "moves", "(I)V"⟩
abbrev cX10_many : ByteArray := prog_12_method_37_code
def yX10_many : MethodName := ⟨RX10, "many", "(I)I"⟩
abbrev cX10_isPassing : ByteArray := prog_12_method_38_code
def yX10_isPassing : MethodName := ⟨RX10, "isPassing", "(II)Z"⟩
abbrev cX10_votes : ByteArray := prog_12_method_39_code
def yX10_votes : MethodName := ⟨RX10, "votes", "(IZ)V"⟩
abbrev cX10_papers : ByteArray := prog_12_method_40_code
def yX10_papers : MethodName := ⟨RX10, "papers", "(II)V"⟩
abbrev cX10_goes : ByteArray := prog_12_method_41_code
def yX10_goes : MethodName := ⟨RX10, "goes", "(I)V"⟩
abbrev cX10_adds : ByteArray := prog_12_method_42_code
def yX10_adds : MethodName := ⟨RX10, "adds", "(II)V"⟩
abbrev cX10_amends : ByteArray := prog_12_method_43_code
def yX10_amends : MethodName := ⟨RX10, "amends", "(II)V"⟩
abbrev cX10_behindGone : ByteArray := prog_12_method_44_code
def yX10_behindGone : MethodName := ⟨RX10, "behindGone", "(I)I"⟩
abbrev cX10_works : ByteArray := prog_12_method_45_code
def yX10_works : MethodName := ⟨RX10, "works", "(I)V"⟩
abbrev cX10_act : ByteArray := prog_12_method_46_code
def yX10_act : MethodName := ⟨RX10, "act", "(IIIII)I"⟩
abbrev cX10_again : ByteArray := prog_12_method_47_code
def yX10_again : MethodName := ⟨RX10, "again", "(II)V"⟩
abbrev cX10_beside : ByteArray := prog_12_method_48_code
def yX10_beside : MethodName := ⟨RX10, "beside", "(II)I"⟩
abbrev cX10_ruling : ByteArray := prog_12_method_49_code
def yX10_ruling : MethodName := ⟨RX10, "ruling", "(I)I"⟩
abbrev cX10_passed : ByteArray := prog_12_method_50_code
def yX10_passed : MethodName := ⟨RX10, "passed", "(I)I"⟩
abbrev cX10_state : ByteArray := prog_12_method_51_code
def yX10_state : MethodName := ⟨RX10, "state", "(I)I"⟩
abbrev cX10_pending : ByteArray := prog_12_method_52_code
def yX10_pending : MethodName := ⟨RX10, "pending", "(II)I"⟩
abbrev cX10_clause_ : ByteArray := prog_12_method_53_code
def yX10_clause_ : MethodName := ⟨RX10, "clause", "(II)I"⟩
abbrev cX10_place : ByteArray := prog_12_method_54_code
def yX10_place : MethodName := ⟨RX10, "place", "(I)I"⟩
abbrev cX10_speeches : ByteArray := prog_12_method_55_code
def yX10_speeches : MethodName := ⟨RX10, "speeches", "(I)I"⟩
abbrev cX10_waits : ByteArray := prog_12_method_56_code
def yX10_waits : MethodName := ⟨RX10, "waits", "(I)I"⟩
abbrev cX10_overturned : ByteArray := prog_12_method_57_code
def yX10_overturned : MethodName := ⟨RX10, "overturned", "(I)I"⟩
abbrev cX10_score : ByteArray := prog_12_method_58_code
def yX10_score : MethodName := ⟨RX10, "score", "(IIII)Z"⟩
abbrev cX10_counts : ByteArray := prog_12_method_59_code
def yX10_counts : MethodName := ⟨RX10, "counts", "(II)Z"⟩
abbrev cX10_scaled : ByteArray := prog_12_method_60_code
def yX10_scaled : MethodName := ⟨RX10, "scaled", "(II)I"⟩
abbrev cX10_mean : ByteArray := prog_12_method_61_code
def yX10_mean : MethodName := ⟨RX10, "mean", "(I)I"⟩
abbrev cX10_award : ByteArray := prog_12_method_62_code
def yX10_award : MethodName := ⟨RX10, "award", "(I)I"⟩
abbrev cX10_told : ByteArray := prog_12_method_63_code
def yX10_told : MethodName := ⟨RX10, "told", "(I)I"⟩
def RJ6 : String := "java/lang/Integer"
def TJ6 : u_T := fun k => match k with
  | _ => ("", "", "", false)
def tyJ6 : Nat → FieldType := fun k => match k with
  | _ => .int
abbrev wsJ60 : List Cond := u_ws RJ6 TJ6 0
theorem nmJ6 : ∀ a, a < 0 → ∀ b, b < 0 → a ≠ b → (TJ6 a).2.1 ≠ (TJ6 b).2.1 := by decide +kernel
theorem tyJ6_ok : ∀ k, k < 0 → parseFieldDescriptor (TJ6 k).2.2.1 = some (tyJ6 k) := by decide +kernel
abbrev cJ6_bitCount_0f7a4 : ByteArray := prog_13_method_49_code
def yJ6_bitCount_0f7a4 : MethodName := ⟨RJ6, "bitCount", "(I)I"⟩
def RJ9 : String := "java/lang/Math"
def TJ9 : u_T := fun k => match k with
  | _ => ("", "", "", false)
def tyJ9 : Nat → FieldType := fun k => match k with
  | _ => .int
abbrev wsJ90 : List Cond := u_ws RJ9 TJ9 0
theorem nmJ9 : ∀ a, a < 0 → ∀ b, b < 0 → a ≠ b → (TJ9 a).2.1 ≠ (TJ9 b).2.1 := by decide +kernel
theorem tyJ9_ok : ∀ k, k < 0 → parseFieldDescriptor (TJ9 k).2.2.1 = some (tyJ9 k) := by decide +kernel
abbrev cJ9_max_7cf53 : ByteArray := prog_14_method_65_code
def yJ9_max_7cf53 : MethodName := ⟨RJ9, "max", "(II)I"⟩
abbrev cJ9_min_7cf53 : ByteArray := prog_14_method_69_code
def yJ9_min_7cf53 : MethodName := ⟨RJ9, "min", "(II)I"⟩
def RJ0 : String := "java/lang/String"
def TJ0 : u_T := fun k => match k with
  | _ => ("", "", "", false)
def tyJ0 : Nat → FieldType := fun k => match k with
  | _ => .int
abbrev wsJ00 : List Cond := u_ws RJ0 TJ0 0
theorem nmJ0 : ∀ a, a < 0 → ∀ b, b < 0 → a ≠ b → (TJ0 a).2.1 ≠ (TJ0 b).2.1 := by decide +kernel
theorem tyJ0_ok : ∀ k, k < 0 → parseFieldDescriptor (TJ0 k).2.2.1 = some (tyJ0 k) := by decide +kernel
abbrev cJ0_length_8abf5 : ByteArray := prog_15_method_54_code
def yJ0_length_8abf5 : MethodName := ⟨RJ0, "length", "()I"⟩
abbrev cJ0_charAt_5068e : ByteArray := prog_15_method_56_code
def yJ0_charAt_5068e : MethodName := ⟨RJ0, "charAt", "(I)C"⟩
abbrev cJ0_coder_7d493 : ByteArray := prog_15_method_152_code
def yJ0_coder_7d493 : MethodName := ⟨RJ0, "coder", "()B"⟩
abbrev cJ0_isLatin1_aae02 : ByteArray := prog_15_method_154_code
def yJ0_isLatin1_aae02 : MethodName := ⟨RJ0, "isLatin1", "()Z"⟩
abbrev cJ0_checkIndex_df160 : ByteArray := prog_15_method_155_code
def yJ0_checkIndex_df160 : MethodName := ⟨RJ0, "checkIndex", "(II)V"⟩
def RJ1 : String := "java/lang/StringLatin1"
def TJ1 : u_T := fun k => match k with
  | _ => ("", "", "", false)
def tyJ1 : Nat → FieldType := fun k => match k with
  | _ => .int
abbrev wsJ10 : List Cond := u_ws RJ1 TJ1 0
theorem nmJ1 : ∀ a, a < 0 → ∀ b, b < 0 → a ≠ b → (TJ1 a).2.1 ≠ (TJ1 b).2.1 := by decide +kernel
theorem tyJ1_ok : ∀ k, k < 0 → parseFieldDescriptor (TJ1 k).2.2.1 = some (tyJ1 k) := by decide +kernel
abbrev cJ1_charAt_3b067 : ByteArray := prog_16_method_2_code
def yJ1_charAt_3b067 : MethodName := ⟨RJ1, "charAt", "([BI)C"⟩
def RJ2 : String := "java/lang/StringUTF16"
def TJ2 : u_T := fun k => match k with
  | _ => ("", "", "", false)
def tyJ2 : Nat → FieldType := fun k => match k with
  | _ => .int
abbrev wsJ20 : List Cond := u_ws RJ2 TJ2 0
theorem nmJ2 : ∀ a, a < 0 → ∀ b, b < 0 → a ≠ b → (TJ2 a).2.1 ≠ (TJ2 b).2.1 := by decide +kernel
theorem tyJ2_ok : ∀ k, k < 0 → parseFieldDescriptor (TJ2 k).2.2.1 = some (tyJ2 k) := by decide +kernel
abbrev cJ2_getChar_3b067 : ByteArray := prog_17_method_5_code
def yJ2_getChar_3b067 : MethodName := ⟨RJ2, "getChar", "([BI)C"⟩
abbrev cJ2_length_9d52b : ByteArray := prog_17_method_6_code
def yJ2_length_9d52b : MethodName := ⟨RJ2, "length", "([B)I"⟩
abbrev cJ2_charAt_3b067 : ByteArray := prog_17_method_83_code
def yJ2_charAt_3b067 : MethodName := ⟨RJ2, "charAt", "([BI)C"⟩
abbrev cJ2_checkIndex_2214a : ByteArray := prog_17_method_91_code
def yJ2_checkIndex_2214a : MethodName := ⟨RJ2, "checkIndex", "(I[B)V"⟩
def RJ3 : String := "jdk/internal/util/Preconditions"
def TJ3 : u_T := fun k => match k with
  | _ => ("", "", "", false)
def tyJ3 : Nat → FieldType := fun k => match k with
  | _ => .int
abbrev wsJ30 : List Cond := u_ws RJ3 TJ3 0
theorem nmJ3 : ∀ a, a < 0 → ∀ b, b < 0 → a ≠ b → (TJ3 a).2.1 ≠ (TJ3 b).2.1 := by decide +kernel
theorem tyJ3_ok : ∀ k, k < 0 → parseFieldDescriptor (TJ3 k).2.2.1 = some (tyJ3 k) := by decide +kernel
abbrev cJ3_checkIndex_8e157 : ByteArray := prog_18_method_11_code
def yJ3_checkIndex_8e157 : MethodName := ⟨RJ3, "checkIndex", "(IILjava/util/function/BiFunction;)I"⟩
def RL : String := "DebateHouseLaw"
abbrev cL_law : ByteArray := code
def yL_law : MethodName := ⟨RL, "law", "([I)Z"⟩
theorem inJ6 : ∀ w ∈ wsJ60, w ∈ lw_tbl := by decide +kernel
theorem inJ9 : ∀ w ∈ wsJ90, w ∈ lw_tbl := by decide +kernel
theorem inJ0 : ∀ w ∈ wsJ00, w ∈ lw_tbl := by decide +kernel
theorem inJ1 : ∀ w ∈ wsJ10, w ∈ lw_tbl := by decide +kernel
theorem inJ2 : ∀ w ∈ wsJ20, w ∈ lw_tbl := by decide +kernel
theorem inJ3 : ∀ w ∈ wsJ30, w ∈ lw_tbl := by decide +kernel
abbrev vwCl : List vw_C := [(RX0, TX0, 8), (RX1, TX1, 4), (RX2, TX2, 6), (RX3, TX3, 9), (RX4, TX4, 6), (RX5, TX5, 5), (RX6, TX6, 8), (RX7, TX7, 16), (RX8, TX8, 2), (RX9, TX9, 10), (RX10, TX10, 61)]
end
section
/-! ===== the cells: kinds and lengths (0 to 10 an object of that class and its number of fields; 11 bytes, 12 ints, 13 booleans; 14.. rows of rows) ===== -/
def zKt : List (Nat × Nat) := [(9, 10), (8, 2), (11, 600), (6, 8), (12, 8), (12, 8), (13, 8), (13, 8), (6, 8), (12, 8), (12, 8), (13, 8), (13, 8), (5, 5), (12, 24), (2, 6), (12, 300), (12, 300), (12, 300), (12, 300), (12, 300), (7, 16), (0, 8), (12, 24), (12, 24), (3, 9), (12, 8), (12, 8), (12, 8), (12, 8), (12, 8), (13, 8), (13, 8), (4, 6), (12, 320), (12, 320), (12, 320), (12, 300), (12, 300), (13, 300), (13, 300), (7, 16), (0, 8), (12, 24), (12, 24), (3, 9), (12, 8), (12, 8), (12, 8), (12, 8), (12, 8), (13, 8), (13, 8), (4, 6), (12, 320), (12, 320), (12, 320), (12, 300), (12, 300), (13, 300), (13, 300), (0, 8), (12, 24), (12, 24), (1, 4), (12, 6), (19, 6), (12, 24), (12, 24), (12, 24), (12, 24), (12, 24), (12, 24), (12, 24), (10, 61), (11, 600), (13, 12), (14, 2), (12, 8), (12, 8), (14, 2), (12, 8), (12, 8), (15, 2), (13, 8), (13, 8), (15, 2), (13, 8), (13, 8), (12, 2), (12, 2), (13, 2), (13, 2), (12, 24), (12, 300), (12, 300), (12, 300), (12, 300), (12, 300), (16, 2), (12, 300), (12, 300), (16, 2), (12, 300), (12, 300), (17, 2), (13, 300), (13, 300), (13, 24), (12, 24), (12, 24), (12, 12), (12, 12), (12, 12), (12, 12), (12, 12), (13, 12), (13, 12), (13, 300), (12, 60), (12, 60), (12, 400), (12, 24), (12, 24), (12, 6), (19, 6), (12, 24), (12, 24), (12, 24), (12, 24), (12, 24), (12, 24), (20, 6), (13, 24), (13, 24), (13, 24), (13, 24), (13, 24), (13, 24), (13, 24), (18, 400)]
abbrev zNB : Nat := 141
abbrev zNC : Nat := 541
def zKd (c : Nat) : Nat × Nat := if c < zNB then zKt.getD c (99, 0) else if c < zNC then (12, 60) else (99, 0)
def zRt : List (List Nat) := [[1, 3, 8, 13, 14, 15, 21, 41, 61, 64], [2, 0], [], [4, 5, 6, 7, 0, 0, 0, 0], [], [], [], [], [9, 10, 11, 12, 0, 0, 0, 0], [], [], [], [], [1, 8, 0, 0, 0], [], [16, 17, 18, 19, 20, 0], [], [], [], [], [], [3, 15, 22, 25, 33, 37, 38, 39, 40, 0, 0, 0, 0, 0, 0, 0], [3, 14, 23, 24, 0, 0, 0, 0], [], [], [3, 26, 27, 28, 29, 30, 31, 32, 0], [], [], [], [], [], [], [], [34, 35, 36, 0, 0, 0], [], [], [], [], [], [], [], [3, 15, 42, 45, 53, 57, 58, 59, 60, 0, 0, 0, 0, 0, 0, 0], [3, 14, 43, 44, 0, 0, 0, 0], [], [], [3, 46, 47, 48, 49, 50, 51, 52, 0], [], [], [], [], [], [], [], [54, 55, 56, 0, 0, 0], [], [], [], [], [], [], [], [3, 14, 62, 63, 0, 0, 0, 0], [], [], [14, 65, 66, 73], [], [67, 68, 69, 70, 71, 72], [], [], [], [], [], [], [], [0, 75, 0, 0, 0, 0, 76, 77, 80, 83, 86, 89, 90, 91, 92, 93, 0, 94, 95, 96, 97, 98, 99, 102, 105, 0, 0, 0, 108, 109, 110, 0, 0, 0, 0, 0, 0, 0, 0, 0, 111, 112, 113, 114, 115, 116, 117, 118, 0, 0, 0, 119, 120, 121, 140, 122, 123, 124, 125, 132, 139], [], [], [78, 79], [], [], [81, 82], [], [], [84, 85], [], [], [87, 88], [], [], [], [], [], [], [], [], [], [], [], [], [100, 101], [], [], [103, 104], [], [], [106, 107], [], [], [], [], [], [], [], [], [], [], [], [], [], [], [], [], [], [], [], [126, 127, 128, 129, 130, 131], [], [], [], [], [], [], [133, 134, 135, 136, 137, 138], [], [], [], [], [], [], [], []]
def zRf (c i : Nat) : Nat := if c = 140 then zNB + i else (zRt.getD c []).getD i 0
def zFt : List (List Bool) := [[true, true, true, true, false, false, false, false], [true, true, true, true], [true, true, true, true, true, false], [true, true, true, true, true, true, true, true, false], [true, true, true, false, false, false], [true, true, false, false, false], [true, true, true, true, false, false, false, false], [true, true, true, true, true, true, true, true, true, false, false, false, false, false, false, false], [true, false], [true, true, true, true, true, true, true, true, true, true], [false, true, false, false, false, false, true, true, true, true, true, true, true, true, true, true, false, true, true, true, true, true, true, true, true, false, false, false, true, true, true, false, false, false, false, false, false, false, false, false, true, true, true, true, true, true, true, true, false, false, false, true, true, true, true, true, true, true, true, true, true]]
def zFr (k i : Nat) : Bool := (zFt.getD k []).getD i false
def zAk (k : Nat) : Nat := if k = 15 ∨ k = 17 ∨ k = 20 then 15 else 14
theorem zKd_lt {c k n : Nat} (h : zKd c = (k, n)) (hk : k < 21) : c < zNC := by
  rcases Nat.lt_or_ge c zNC with q | q
  · exact q
  · have h2 : ¬ c < zNB := by simp only [zNB, zNC] at *; omega
    rw [zKd, if_neg h2, if_neg (by omega)] at h
    have := congrArg Prod.fst h
    simp only at this
    omega
theorem zKd_nb {c k n : Nat} (h : zKd c = (k, n)) (hk : k < 12 ∨ 12 < k ∨ n ≠ 60) (hk2 : k < 21) : c < zNB := by
  rcases Nat.lt_or_ge c zNB with q | q
  · exact q
  · have h1 := zKd_lt h hk2
    rw [zKd, if_neg (by omega), if_pos h1] at h
    have a1 := congrArg Prod.fst h
    have a2 := congrArg Prod.snd h
    simp only at a1 a2
    omega
end
section
/-! the text constants: one for each place of a constant pool -/
abbrev zNS : Nat := 50
def zSl : List Nat := [6, 4, 5, 5, 5, 5, 6, 7, 6, 4, 6, 6, 4, 4, 6, 7, 5, 4, 6, 5, 7, 7, 6, 3, 2, 6, 4, 5, 5, 5, 5, 6, 7, 6, 4, 6, 6, 4, 4, 6, 7, 5, 4, 6, 5, 6, 7, 7, 3, 2]
def zSb : List (List Int32) := [[109, 111, 116, 105, 111, 110], [109, 97, 105, 110], [97, 109, 101, 110, 100], [99, 108, 111, 115, 101], [108, 105, 109, 105, 116], [116, 97, 98, 108, 101], [114, 101, 99, 101, 115, 115], [97, 100, 106, 111, 117, 114, 110], [97, 112, 112, 101, 97, 108], [114, 97, 110, 107], [115, 101, 99, 111, 110, 100], [100, 101, 98, 97, 116, 101], [112, 97, 115, 115], [104, 97, 108, 102], [116, 104, 105, 114, 100, 115], [113, 117, 97, 114, 116, 101, 114], [99, 104, 97, 105, 114], [116, 105, 109, 101], [113, 117, 111, 114, 117, 109], [116, 117, 114, 110, 115], [115, 99, 104, 111, 111, 108, 115], [109, 101, 109, 98, 101, 114, 115], [121, 105, 101, 108, 100, 115], [121, 101, 115], [110, 111], [109, 111, 116, 105, 111, 110], [109, 97, 105, 110], [97, 109, 101, 110, 100], [99, 108, 111, 115, 101], [108, 105, 109, 105, 116], [116, 97, 98, 108, 101], [114, 101, 99, 101, 115, 115], [97, 100, 106, 111, 117, 114, 110], [97, 112, 112, 101, 97, 108], [114, 97, 110, 107], [115, 101, 99, 111, 110, 100], [100, 101, 98, 97, 116, 101], [112, 97, 115, 115], [104, 97, 108, 102], [116, 104, 105, 114, 100, 115], [113, 117, 97, 114, 116, 101, 114], [99, 104, 97, 105, 114], [116, 105, 109, 101], [113, 117, 111, 114, 117, 109], [116, 117, 114, 110, 115], [121, 105, 101, 108, 100, 115], [115, 99, 104, 111, 111, 108, 115], [109, 101, 109, 98, 101, 114, 115], [121, 101, 115], [110, 111]]
def zSt : List (String × Nat × String × Nat) := [(RX5, 48, "motion", 0), (RX5, 163, "main", 1), (RX5, 165, "amend", 2), (RX5, 167, "close", 3), (RX5, 169, "limit", 4), (RX5, 171, "table", 5), (RX5, 173, "recess", 6), (RX5, 175, "adjourn", 7), (RX5, 177, "appeal", 8), (RX5, 110, "rank", 9), (RX5, 123, "second", 10), (RX5, 128, "debate", 11), (RX5, 130, "pass", 12), (RX5, 179, "half", 13), (RX5, 181, "thirds", 14), (RX5, 183, "quarter", 15), (RX5, 185, "chair", 16), (RX5, 57, "time", 17), (RX5, 69, "quorum", 18), (RX5, 73, "turns", 19), (RX5, 75, "schools", 20), (RX5, 77, "members", 21), (RX5, 87, "yields", 22), (RX5, 89, "yes", 23), (RX5, 91, "no", 24), (RX10, 244, "motion", 25), (RX10, 188, "main", 26), (RX10, 190, "amend", 27), (RX10, 192, "close", 28), (RX10, 194, "limit", 29), (RX10, 196, "table", 30), (RX10, 198, "recess", 31), (RX10, 200, "adjourn", 32), (RX10, 202, "appeal", 33), (RX10, 228, "rank", 34), (RX10, 236, "second", 35), (RX10, 237, "debate", 36), (RX10, 239, "pass", 37), (RX10, 204, "half", 38), (RX10, 206, "thirds", 39), (RX10, 208, "quarter", 40), (RX10, 210, "chair", 41), (RX10, 212, "time", 42), (RX10, 213, "quorum", 43), (RX10, 214, "turns", 44), (RX10, 216, "yields", 45), (RX10, 251, "schools", 46), (RX10, 253, "members", 47), (RX10, 255, "yes", 48), (RX10, 257, "no", 49)]
end
section
/-! ===== the words of the tables that the walks use, by their places ===== -/
def zW : List Cond := lw_tbl.filter goodWord
theorem zW_of {w : Cond} (k : Nat) (h : lw_tbl[k]? = some w) (hg : goodWord w = true) : w ∈ zW := List.mem_filter.mpr ⟨List.mem_of_getElem? h, hg⟩
def zNw : List (String × Nat × MethodName × String) := [(RX9, 11, yX8_init, RX9), (RX9, 41, yX2_init, RX9), (RX7, 53, yX4_init, RX9), (RX5, 103, yX9_isKind, RX9), (RX6, 42, yX9_isKind, RX9), (RX2, 31, yX9_isActNumber, RX9), (RX7, 96, yX9_isActNumber, RX9), (RX7, 141, yX9_isMember, RX9), (RX7, 168, yX9_isKind, RX9), (RX3, 52, yX9_isKind, RX9), (RX0, 59, yX9_isMember, RX9), (RX1, 26, yX9_isSchool, RX9), (RX1, 30, yX9_isMember, RX9)]
theorem inX0 : ∀ w ∈ u_ws RX0 TX0 8, w ∈ zW := by
  intro w hw
  obtain ⟨k, hk, rfl⟩ := List.mem_map.mp hw
  have hk := List.mem_range.mp hk
  match k, hk with
  | 0, _ => exact zW_of 244 (by decide +kernel) rfl
  | 1, _ => exact zW_of 246 (by decide +kernel) rfl
  | 2, _ => exact zW_of 248 (by decide +kernel) rfl
  | 3, _ => exact zW_of 250 (by decide +kernel) rfl
  | 4, _ => exact zW_of 252 (by decide +kernel) rfl
  | 5, _ => exact zW_of 254 (by decide +kernel) rfl
  | 6, _ => exact zW_of 256 (by decide +kernel) rfl
  | 7, _ => exact zW_of 258 (by decide +kernel) rfl
  | k + 8, hk => omega
theorem inX1 : ∀ w ∈ u_ws RX1 TX1 4, w ∈ zW := by
  intro w hw
  obtain ⟨k, hk, rfl⟩ := List.mem_map.mp hw
  have hk := List.mem_range.mp hk
  match k, hk with
  | 0, _ => exact zW_of 410 (by decide +kernel) rfl
  | 1, _ => exact zW_of 412 (by decide +kernel) rfl
  | 2, _ => exact zW_of 414 (by decide +kernel) rfl
  | 3, _ => exact zW_of 416 (by decide +kernel) rfl
  | k + 4, hk => omega
theorem inX2 : ∀ w ∈ u_ws RX2 TX2 6, w ∈ zW := by
  intro w hw
  obtain ⟨k, hk, rfl⟩ := List.mem_map.mp hw
  have hk := List.mem_range.mp hk
  match k, hk with
  | 0, _ => exact zW_of 205 (by decide +kernel) rfl
  | 1, _ => exact zW_of 207 (by decide +kernel) rfl
  | 2, _ => exact zW_of 209 (by decide +kernel) rfl
  | 3, _ => exact zW_of 211 (by decide +kernel) rfl
  | 4, _ => exact zW_of 213 (by decide +kernel) rfl
  | 5, _ => exact zW_of 215 (by decide +kernel) rfl
  | k + 6, hk => omega
theorem inX3 : ∀ w ∈ u_ws RX3 TX3 9, w ∈ zW := by
  intro w hw
  obtain ⟨k, hk, rfl⟩ := List.mem_map.mp hw
  have hk := List.mem_range.mp hk
  match k, hk with
  | 0, _ => exact zW_of 281 (by decide +kernel) rfl
  | 1, _ => exact zW_of 283 (by decide +kernel) rfl
  | 2, _ => exact zW_of 285 (by decide +kernel) rfl
  | 3, _ => exact zW_of 287 (by decide +kernel) rfl
  | 4, _ => exact zW_of 289 (by decide +kernel) rfl
  | 5, _ => exact zW_of 291 (by decide +kernel) rfl
  | 6, _ => exact zW_of 293 (by decide +kernel) rfl
  | 7, _ => exact zW_of 295 (by decide +kernel) rfl
  | 8, _ => exact zW_of 297 (by decide +kernel) rfl
  | k + 9, hk => omega
theorem inX4 : ∀ w ∈ u_ws RX4 TX4 6, w ∈ zW := by
  intro w hw
  obtain ⟨k, hk, rfl⟩ := List.mem_map.mp hw
  have hk := List.mem_range.mp hk
  match k, hk with
  | 0, _ => exact zW_of 314 (by decide +kernel) rfl
  | 1, _ => exact zW_of 316 (by decide +kernel) rfl
  | 2, _ => exact zW_of 318 (by decide +kernel) rfl
  | 3, _ => exact zW_of 320 (by decide +kernel) rfl
  | 4, _ => exact zW_of 322 (by decide +kernel) rfl
  | 5, _ => exact zW_of 324 (by decide +kernel) rfl
  | k + 6, hk => omega
theorem inX5 : ∀ w ∈ u_ws RX5 TX5 5, w ∈ zW := by
  intro w hw
  obtain ⟨k, hk, rfl⟩ := List.mem_map.mp hw
  have hk := List.mem_range.mp hk
  match k, hk with
  | 0, _ => exact zW_of 176 (by decide +kernel) rfl
  | 1, _ => exact zW_of 178 (by decide +kernel) rfl
  | 2, _ => exact zW_of 180 (by decide +kernel) rfl
  | 3, _ => exact zW_of 182 (by decide +kernel) rfl
  | 4, _ => exact zW_of 184 (by decide +kernel) rfl
  | k + 5, hk => omega
theorem inX6 : ∀ w ∈ u_ws RX6 TX6 8, w ∈ zW := by
  intro w hw
  obtain ⟨k, hk, rfl⟩ := List.mem_map.mp hw
  have hk := List.mem_range.mp hk
  match k, hk with
  | 0, _ => exact zW_of 146 (by decide +kernel) rfl
  | 1, _ => exact zW_of 148 (by decide +kernel) rfl
  | 2, _ => exact zW_of 150 (by decide +kernel) rfl
  | 3, _ => exact zW_of 152 (by decide +kernel) rfl
  | 4, _ => exact zW_of 154 (by decide +kernel) rfl
  | 5, _ => exact zW_of 156 (by decide +kernel) rfl
  | 6, _ => exact zW_of 158 (by decide +kernel) rfl
  | 7, _ => exact zW_of 160 (by decide +kernel) rfl
  | k + 8, hk => omega
theorem inX7 : ∀ w ∈ u_ws RX7 TX7 16, w ∈ zW := by
  intro w hw
  obtain ⟨k, hk, rfl⟩ := List.mem_map.mp hw
  have hk := List.mem_range.mp hk
  match k, hk with
  | 0, _ => exact zW_of 363 (by decide +kernel) rfl
  | 1, _ => exact zW_of 365 (by decide +kernel) rfl
  | 2, _ => exact zW_of 367 (by decide +kernel) rfl
  | 3, _ => exact zW_of 369 (by decide +kernel) rfl
  | 4, _ => exact zW_of 371 (by decide +kernel) rfl
  | 5, _ => exact zW_of 373 (by decide +kernel) rfl
  | 6, _ => exact zW_of 375 (by decide +kernel) rfl
  | 7, _ => exact zW_of 377 (by decide +kernel) rfl
  | 8, _ => exact zW_of 379 (by decide +kernel) rfl
  | 9, _ => exact zW_of 381 (by decide +kernel) rfl
  | 10, _ => exact zW_of 383 (by decide +kernel) rfl
  | 11, _ => exact zW_of 385 (by decide +kernel) rfl
  | 12, _ => exact zW_of 387 (by decide +kernel) rfl
  | 13, _ => exact zW_of 389 (by decide +kernel) rfl
  | 14, _ => exact zW_of 391 (by decide +kernel) rfl
  | 15, _ => exact zW_of 393 (by decide +kernel) rfl
  | k + 16, hk => omega
theorem inX8 : ∀ w ∈ u_ws RX8 TX8 2, w ∈ zW := by
  intro w hw
  obtain ⟨k, hk, rfl⟩ := List.mem_map.mp hw
  have hk := List.mem_range.mp hk
  match k, hk with
  | 0, _ => exact zW_of 100 (by decide +kernel) rfl
  | 1, _ => exact zW_of 102 (by decide +kernel) rfl
  | k + 2, hk => omega
theorem inX9 : ∀ w ∈ u_ws RX9 TX9 10, w ∈ zW := by
  intro w hw
  obtain ⟨k, hk, rfl⟩ := List.mem_map.mp hw
  have hk := List.mem_range.mp hk
  match k, hk with
  | 0, _ => exact zW_of 429 (by decide +kernel) rfl
  | 1, _ => exact zW_of 431 (by decide +kernel) rfl
  | 2, _ => exact zW_of 433 (by decide +kernel) rfl
  | 3, _ => exact zW_of 435 (by decide +kernel) rfl
  | 4, _ => exact zW_of 437 (by decide +kernel) rfl
  | 5, _ => exact zW_of 439 (by decide +kernel) rfl
  | 6, _ => exact zW_of 441 (by decide +kernel) rfl
  | 7, _ => exact zW_of 443 (by decide +kernel) rfl
  | 8, _ => exact zW_of 445 (by decide +kernel) rfl
  | 9, _ => exact zW_of 447 (by decide +kernel) rfl
  | k + 10, hk => omega
theorem inX10 : ∀ w ∈ u_ws RX10 TX10 61, w ∈ zW := by
  intro w hw
  obtain ⟨k, hk, rfl⟩ := List.mem_map.mp hw
  have hk := List.mem_range.mp hk
  match k, hk with
  | 0, _ => exact zW_of 1051 (by decide +kernel) rfl
  | 1, _ => exact zW_of 1053 (by decide +kernel) rfl
  | 2, _ => exact zW_of 1055 (by decide +kernel) rfl
  | 3, _ => exact zW_of 1057 (by decide +kernel) rfl
  | 4, _ => exact zW_of 1059 (by decide +kernel) rfl
  | 5, _ => exact zW_of 1061 (by decide +kernel) rfl
  | 6, _ => exact zW_of 1063 (by decide +kernel) rfl
  | 7, _ => exact zW_of 1065 (by decide +kernel) rfl
  | 8, _ => exact zW_of 1067 (by decide +kernel) rfl
  | 9, _ => exact zW_of 1069 (by decide +kernel) rfl
  | 10, _ => exact zW_of 1071 (by decide +kernel) rfl
  | 11, _ => exact zW_of 1073 (by decide +kernel) rfl
  | 12, _ => exact zW_of 1075 (by decide +kernel) rfl
  | 13, _ => exact zW_of 1077 (by decide +kernel) rfl
  | 14, _ => exact zW_of 1079 (by decide +kernel) rfl
  | 15, _ => exact zW_of 1081 (by decide +kernel) rfl
  | 16, _ => exact zW_of 1083 (by decide +kernel) rfl
  | 17, _ => exact zW_of 1085 (by decide +kernel) rfl
  | 18, _ => exact zW_of 1087 (by decide +kernel) rfl
  | 19, _ => exact zW_of 1089 (by decide +kernel) rfl
  | 20, _ => exact zW_of 1091 (by decide +kernel) rfl
  | 21, _ => exact zW_of 1093 (by decide +kernel) rfl
  | 22, _ => exact zW_of 1095 (by decide +kernel) rfl
  | 23, _ => exact zW_of 1097 (by decide +kernel) rfl
  | 24, _ => exact zW_of 1099 (by decide +kernel) rfl
  | 25, _ => exact zW_of 1101 (by decide +kernel) rfl
  | 26, _ => exact zW_of 1103 (by decide +kernel) rfl
  | 27, _ => exact zW_of 1105 (by decide +kernel) rfl
  | 28, _ => exact zW_of 1107 (by decide +kernel) rfl
  | 29, _ => exact zW_of 1109 (by decide +kernel) rfl
  | 30, _ => exact zW_of 1111 (by decide +kernel) rfl
  | 31, _ => exact zW_of 1113 (by decide +kernel) rfl
  | 32, _ => exact zW_of 1115 (by decide +kernel) rfl
  | 33, _ => exact zW_of 1117 (by decide +kernel) rfl
  | 34, _ => exact zW_of 1119 (by decide +kernel) rfl
  | 35, _ => exact zW_of 1121 (by decide +kernel) rfl
  | 36, _ => exact zW_of 1123 (by decide +kernel) rfl
  | 37, _ => exact zW_of 1125 (by decide +kernel) rfl
  | 38, _ => exact zW_of 1127 (by decide +kernel) rfl
  | 39, _ => exact zW_of 1129 (by decide +kernel) rfl
  | 40, _ => exact zW_of 1131 (by decide +kernel) rfl
  | 41, _ => exact zW_of 1133 (by decide +kernel) rfl
  | 42, _ => exact zW_of 1135 (by decide +kernel) rfl
  | 43, _ => exact zW_of 1137 (by decide +kernel) rfl
  | 44, _ => exact zW_of 1139 (by decide +kernel) rfl
  | 45, _ => exact zW_of 1141 (by decide +kernel) rfl
  | 46, _ => exact zW_of 1143 (by decide +kernel) rfl
  | 47, _ => exact zW_of 1145 (by decide +kernel) rfl
  | 48, _ => exact zW_of 1147 (by decide +kernel) rfl
  | 49, _ => exact zW_of 1149 (by decide +kernel) rfl
  | 50, _ => exact zW_of 1151 (by decide +kernel) rfl
  | 51, _ => exact zW_of 1153 (by decide +kernel) rfl
  | 52, _ => exact zW_of 1155 (by decide +kernel) rfl
  | 53, _ => exact zW_of 1157 (by decide +kernel) rfl
  | 54, _ => exact zW_of 1159 (by decide +kernel) rfl
  | 55, _ => exact zW_of 1161 (by decide +kernel) rfl
  | 56, _ => exact zW_of 1163 (by decide +kernel) rfl
  | 57, _ => exact zW_of 1165 (by decide +kernel) rfl
  | 58, _ => exact zW_of 1167 (by decide +kernel) rfl
  | 59, _ => exact zW_of 1169 (by decide +kernel) rfl
  | 60, _ => exact zW_of 1171 (by decide +kernel) rfl
  | k + 61, hk => omega
theorem iz_RL : Cond.initialized RL ∈ zW := zW_of 64 (by decide +kernel) rfl
theorem iz_RX9 : Cond.initialized RX9 ∈ zW := zW_of 65 (by decide +kernel) rfl
theorem iz_RX8 : Cond.initialized RX8 ∈ zW := zW_of 66 (by decide +kernel) rfl
theorem iz_RX6 : Cond.initialized RX6 ∈ zW := zW_of 67 (by decide +kernel) rfl
theorem iz_RX5 : Cond.initialized RX5 ∈ zW := zW_of 68 (by decide +kernel) rfl
theorem iz_RX2 : Cond.initialized RX2 ∈ zW := zW_of 69 (by decide +kernel) rfl
theorem iz_RX7 : Cond.initialized RX7 ∈ zW := zW_of 70 (by decide +kernel) rfl
theorem iz_RX0 : Cond.initialized RX0 ∈ zW := zW_of 71 (by decide +kernel) rfl
theorem iz_RX3 : Cond.initialized RX3 ∈ zW := zW_of 72 (by decide +kernel) rfl
theorem iz_RX4 : Cond.initialized RX4 ∈ zW := zW_of 73 (by decide +kernel) rfl
theorem iz_RX1 : Cond.initialized RX1 ∈ zW := zW_of 74 (by decide +kernel) rfl
theorem iz_RX10 : Cond.initialized RX10 ∈ zW := zW_of 75 (by decide +kernel) rfl
theorem iz_RJ0 : Cond.initialized RJ0 ∈ zW := zW_of 76 (by decide +kernel) rfl
theorem iz_RJ1 : Cond.initialized RJ1 ∈ zW := zW_of 77 (by decide +kernel) rfl
theorem iz_RJ3 : Cond.initialized RJ3 ∈ zW := zW_of 78 (by decide +kernel) rfl
theorem iz_RJ2 : Cond.initialized RJ2 ∈ zW := zW_of 79 (by decide +kernel) rfl
theorem iz_RJ6 : Cond.initialized RJ6 ∈ zW := zW_of 80 (by decide +kernel) rfl
theorem iz_RJ9 : Cond.initialized RJ9 ∈ zW := zW_of 81 (by decide +kernel) rfl
theorem ml_RL_9 : Cond.methodLink RL 9 yX9_init ∈ zW := zW_of 84 (by decide +kernel) rfl
theorem fl_RX8_9 : Cond.fieldLink RX8 9 (TX8 0).1 (TX8 0).2.1 (TX8 0).2.2.1 ∈ zW := zW_of 96 (by decide +kernel) rfl
theorem fl_RX9_76 : Cond.fieldLink RX9 76 (TX8 1).1 (TX8 1).2.1 (TX8 1).2.2.1 ∈ zW := zW_of 97 (by decide +kernel) rfl
theorem fl_RX8_15 : Cond.fieldLink RX8 15 (TX8 1).1 (TX8 1).2.1 (TX8 1).2.2.1 ∈ zW := zW_of 98 (by decide +kernel) rfl
theorem fl_RX5_37 : Cond.fieldLink RX5 37 (TX8 1).1 (TX8 1).2.1 (TX8 1).2.2.1 ∈ zW := zW_of 99 (by decide +kernel) rfl
theorem ml_RX9_18 : Cond.methodLink RX9 18 yX6_init ∈ zW := zW_of 108 (by decide +kernel) rfl
theorem ml_RX6_25 : Cond.methodLink RX6 25 yX6_clear ∈ zW := zW_of 112 (by decide +kernel) rfl
theorem fl_RX6_9 : Cond.fieldLink RX6 9 (TX6 0).1 (TX6 0).2.1 (TX6 0).2.2.1 ∈ zW := zW_of 116 (by decide +kernel) rfl
theorem fl_RX5_116 : Cond.fieldLink RX5 116 (TX6 0).1 (TX6 0).2.1 (TX6 0).2.2.1 ∈ zW := zW_of 117 (by decide +kernel) rfl
theorem fl_RX9_181 : Cond.fieldLink RX9 181 (TX6 0).1 (TX6 0).2.1 (TX6 0).2.2.1 ∈ zW := zW_of 118 (by decide +kernel) rfl
theorem fl_RX6_15 : Cond.fieldLink RX6 15 (TX6 1).1 (TX6 1).2.1 (TX6 1).2.2.1 ∈ zW := zW_of 119 (by decide +kernel) rfl
theorem fl_RX5_132 : Cond.fieldLink RX5 132 (TX6 1).1 (TX6 1).2.1 (TX6 1).2.2.1 ∈ zW := zW_of 120 (by decide +kernel) rfl
theorem fl_RX3_56 : Cond.fieldLink RX3 56 (TX6 1).1 (TX6 1).2.1 (TX6 1).2.2.1 ∈ zW := zW_of 121 (by decide +kernel) rfl
theorem fl_RX9_184 : Cond.fieldLink RX9 184 (TX6 1).1 (TX6 1).2.1 (TX6 1).2.2.1 ∈ zW := zW_of 122 (by decide +kernel) rfl
theorem fl_RX7_268 : Cond.fieldLink RX7 268 (TX6 1).1 (TX6 1).2.1 (TX6 1).2.2.1 ∈ zW := zW_of 123 (by decide +kernel) rfl
theorem fl_RX6_18 : Cond.fieldLink RX6 18 (TX6 2).1 (TX6 2).2.1 (TX6 2).2.2.1 ∈ zW := zW_of 124 (by decide +kernel) rfl
theorem fl_RX5_119 : Cond.fieldLink RX5 119 (TX6 2).1 (TX6 2).2.1 (TX6 2).2.2.1 ∈ zW := zW_of 125 (by decide +kernel) rfl
theorem fl_RX3_63 : Cond.fieldLink RX3 63 (TX6 2).1 (TX6 2).2.1 (TX6 2).2.2.1 ∈ zW := zW_of 126 (by decide +kernel) rfl
theorem fl_RX6_22 : Cond.fieldLink RX6 22 (TX6 3).1 (TX6 3).2.1 (TX6 3).2.2.1 ∈ zW := zW_of 127 (by decide +kernel) rfl
theorem fl_RX5_125 : Cond.fieldLink RX5 125 (TX6 3).1 (TX6 3).2.1 (TX6 3).2.2.1 ∈ zW := zW_of 128 (by decide +kernel) rfl
theorem fl_RX3_66 : Cond.fieldLink RX3 66 (TX6 3).1 (TX6 3).2.1 (TX6 3).2.2.1 ∈ zW := zW_of 129 (by decide +kernel) rfl
theorem fl_RX7_80 : Cond.fieldLink RX7 80 (TX6 4).1 (TX6 4).2.1 (TX6 4).2.2.1 ∈ zW := zW_of 130 (by decide +kernel) rfl
theorem fl_RX6_28 : Cond.fieldLink RX6 28 (TX6 4).1 (TX6 4).2.1 (TX6 4).2.2.1 ∈ zW := zW_of 131 (by decide +kernel) rfl
theorem fl_RX5_67 : Cond.fieldLink RX5 67 (TX6 4).1 (TX6 4).2.1 (TX6 4).2.2.1 ∈ zW := zW_of 132 (by decide +kernel) rfl
theorem fl_RX9_187 : Cond.fieldLink RX9 187 (TX6 4).1 (TX6 4).2.1 (TX6 4).2.2.1 ∈ zW := zW_of 133 (by decide +kernel) rfl
theorem fl_RX6_32 : Cond.fieldLink RX6 32 (TX6 5).1 (TX6 5).2.1 (TX6 5).2.2.1 ∈ zW := zW_of 134 (by decide +kernel) rfl
theorem fl_RX5_71 : Cond.fieldLink RX5 71 (TX6 5).1 (TX6 5).2.1 (TX6 5).2.2.1 ∈ zW := zW_of 135 (by decide +kernel) rfl
theorem fl_RX7_156 : Cond.fieldLink RX7 156 (TX6 5).1 (TX6 5).2.1 (TX6 5).2.2.1 ∈ zW := zW_of 136 (by decide +kernel) rfl
theorem fl_RX9_188 : Cond.fieldLink RX9 188 (TX6 5).1 (TX6 5).2.1 (TX6 5).2.2.1 ∈ zW := zW_of 137 (by decide +kernel) rfl
theorem fl_RX6_35 : Cond.fieldLink RX6 35 (TX6 6).1 (TX6 6).2.1 (TX6 6).2.2.1 ∈ zW := zW_of 138 (by decide +kernel) rfl
theorem fl_RX5_83 : Cond.fieldLink RX5 83 (TX6 6).1 (TX6 6).2.1 (TX6 6).2.2.1 ∈ zW := zW_of 139 (by decide +kernel) rfl
theorem fl_RX0_72 : Cond.fieldLink RX0 72 (TX6 6).1 (TX6 6).2.1 (TX6 6).2.2.1 ∈ zW := zW_of 140 (by decide +kernel) rfl
theorem fl_RX9_191 : Cond.fieldLink RX9 191 (TX6 6).1 (TX6 6).2.1 (TX6 6).2.2.1 ∈ zW := zW_of 141 (by decide +kernel) rfl
theorem fl_RX6_39 : Cond.fieldLink RX6 39 (TX6 7).1 (TX6 7).2.1 (TX6 7).2.2.1 ∈ zW := zW_of 142 (by decide +kernel) rfl
theorem fl_RX5_93 : Cond.fieldLink RX5 93 (TX6 7).1 (TX6 7).2.1 (TX6 7).2.2.1 ∈ zW := zW_of 143 (by decide +kernel) rfl
theorem fl_RX0_46 : Cond.fieldLink RX0 46 (TX6 7).1 (TX6 7).2.1 (TX6 7).2.2.1 ∈ zW := zW_of 144 (by decide +kernel) rfl
theorem fl_RX9_195 : Cond.fieldLink RX9 195 (TX6 7).1 (TX6 7).2.1 (TX6 7).2.2.1 ∈ zW := zW_of 145 (by decide +kernel) rfl
theorem ml_RX9_28 : Cond.methodLink RX9 28 yX5_init ∈ zW := zW_of 167 (by decide +kernel) rfl
theorem fl_RX5_9 : Cond.fieldLink RX5 9 (TX5 0).1 (TX5 0).2.1 (TX5 0).2.2.1 ∈ zW := zW_of 171 (by decide +kernel) rfl
theorem fl_RX5_15 : Cond.fieldLink RX5 15 (TX5 1).1 (TX5 1).2.1 (TX5 1).2.2.1 ∈ zW := zW_of 172 (by decide +kernel) rfl
theorem fl_RX5_19 : Cond.fieldLink RX5 19 (TX5 2).1 (TX5 2).2.1 (TX5 2).2.2.1 ∈ zW := zW_of 173 (by decide +kernel) rfl
theorem fl_RX5_23 : Cond.fieldLink RX5 23 (TX5 3).1 (TX5 3).2.1 (TX5 3).2.2.1 ∈ zW := zW_of 174 (by decide +kernel) rfl
theorem fl_RX5_26 : Cond.fieldLink RX5 26 (TX5 4).1 (TX5 4).2.1 (TX5 4).2.2.1 ∈ zW := zW_of 175 (by decide +kernel) rfl
theorem fl_RX2_9 : Cond.fieldLink RX2 9 (TX2 0).1 (TX2 0).2.1 (TX2 0).2.2.1 ∈ zW := zW_of 193 (by decide +kernel) rfl
theorem fl_RX7_115 : Cond.fieldLink RX7 115 (TX2 0).1 (TX2 0).2.1 (TX2 0).2.2.1 ∈ zW := zW_of 194 (by decide +kernel) rfl
theorem fl_RX2_15 : Cond.fieldLink RX2 15 (TX2 1).1 (TX2 1).2.1 (TX2 1).2.2.1 ∈ zW := zW_of 195 (by decide +kernel) rfl
theorem fl_RX7_150 : Cond.fieldLink RX7 150 (TX2 1).1 (TX2 1).2.1 (TX2 1).2.2.1 ∈ zW := zW_of 196 (by decide +kernel) rfl
theorem fl_RX2_18 : Cond.fieldLink RX2 18 (TX2 2).1 (TX2 2).2.1 (TX2 2).2.2.1 ∈ zW := zW_of 197 (by decide +kernel) rfl
theorem fl_RX7_165 : Cond.fieldLink RX7 165 (TX2 2).1 (TX2 2).2.1 (TX2 2).2.2.1 ∈ zW := zW_of 198 (by decide +kernel) rfl
theorem fl_RX2_21 : Cond.fieldLink RX2 21 (TX2 3).1 (TX2 3).2.1 (TX2 3).2.2.1 ∈ zW := zW_of 199 (by decide +kernel) rfl
theorem fl_RX7_159 : Cond.fieldLink RX7 159 (TX2 3).1 (TX2 3).2.1 (TX2 3).2.2.1 ∈ zW := zW_of 200 (by decide +kernel) rfl
theorem fl_RX2_24 : Cond.fieldLink RX2 24 (TX2 4).1 (TX2 4).2.1 (TX2 4).2.2.1 ∈ zW := zW_of 201 (by decide +kernel) rfl
theorem fl_RX7_162 : Cond.fieldLink RX7 162 (TX2 4).1 (TX2 4).2.1 (TX2 4).2.2.1 ∈ zW := zW_of 202 (by decide +kernel) rfl
theorem fl_RX2_27 : Cond.fieldLink RX2 27 (TX2 5).1 (TX2 5).2.1 (TX2 5).2.2.1 ∈ zW := zW_of 203 (by decide +kernel) rfl
theorem fl_RX9_84 : Cond.fieldLink RX9 84 (TX2 5).1 (TX2 5).2.1 (TX2 5).2.2.1 ∈ zW := zW_of 204 (by decide +kernel) rfl
theorem ml_RX9_48 : Cond.methodLink RX9 48 yX7_init ∈ zW := zW_of 220 (by decide +kernel) rfl
theorem ml_RX7_35 : Cond.methodLink RX7 35 yX0_init ∈ zW := zW_of 226 (by decide +kernel) rfl
theorem fl_RX0_22 : Cond.fieldLink RX0 22 (TX0 0).1 (TX0 0).2.1 (TX0 0).2.2.1 ∈ zW := zW_of 230 (by decide +kernel) rfl
theorem fl_RX0_26 : Cond.fieldLink RX0 26 (TX0 1).1 (TX0 1).2.1 (TX0 1).2.2.1 ∈ zW := zW_of 231 (by decide +kernel) rfl
theorem fl_RX0_9 : Cond.fieldLink RX0 9 (TX0 2).1 (TX0 2).2.1 (TX0 2).2.2.1 ∈ zW := zW_of 232 (by decide +kernel) rfl
theorem fl_RX0_15 : Cond.fieldLink RX0 15 (TX0 3).1 (TX0 3).2.1 (TX0 3).2.2.1 ∈ zW := zW_of 233 (by decide +kernel) rfl
theorem fl_RX9_150 : Cond.fieldLink RX9 150 (TX0 3).1 (TX0 3).2.1 (TX0 3).2.2.1 ∈ zW := zW_of 234 (by decide +kernel) rfl
theorem fl_RX0_29 : Cond.fieldLink RX0 29 (TX0 4).1 (TX0 4).2.1 (TX0 4).2.2.1 ∈ zW := zW_of 235 (by decide +kernel) rfl
theorem fl_RX7_128 : Cond.fieldLink RX7 128 (TX0 4).1 (TX0 4).2.1 (TX0 4).2.2.1 ∈ zW := zW_of 236 (by decide +kernel) rfl
theorem fl_RX9_153 : Cond.fieldLink RX9 153 (TX0 4).1 (TX0 4).2.1 (TX0 4).2.2.1 ∈ zW := zW_of 237 (by decide +kernel) rfl
theorem fl_RX0_18 : Cond.fieldLink RX0 18 (TX0 5).1 (TX0 5).2.1 (TX0 5).2.2.1 ∈ zW := zW_of 238 (by decide +kernel) rfl
theorem fl_RX7_131 : Cond.fieldLink RX7 131 (TX0 5).1 (TX0 5).2.1 (TX0 5).2.2.1 ∈ zW := zW_of 239 (by decide +kernel) rfl
theorem fl_RX9_165 : Cond.fieldLink RX9 165 (TX0 5).1 (TX0 5).2.1 (TX0 5).2.2.1 ∈ zW := zW_of 240 (by decide +kernel) rfl
theorem fl_RX0_35 : Cond.fieldLink RX0 35 (TX0 6).1 (TX0 6).2.1 (TX0 6).2.2.1 ∈ zW := zW_of 241 (by decide +kernel) rfl
theorem fl_RX7_134 : Cond.fieldLink RX7 134 (TX0 6).1 (TX0 6).2.1 (TX0 6).2.2.1 ∈ zW := zW_of 242 (by decide +kernel) rfl
theorem fl_RX0_38 : Cond.fieldLink RX0 38 (TX0 7).1 (TX0 7).2.1 (TX0 7).2.2.1 ∈ zW := zW_of 243 (by decide +kernel) rfl
theorem ml_RX7_44 : Cond.methodLink RX7 44 yX3_init ∈ zW := zW_of 263 (by decide +kernel) rfl
theorem fl_RX3_34 : Cond.fieldLink RX3 34 (TX3 0).1 (TX3 0).2.1 (TX3 0).2.2.1 ∈ zW := zW_of 267 (by decide +kernel) rfl
theorem fl_RX3_9 : Cond.fieldLink RX3 9 (TX3 1).1 (TX3 1).2.1 (TX3 1).2.2.1 ∈ zW := zW_of 268 (by decide +kernel) rfl
theorem fl_RX7_250 : Cond.fieldLink RX7 250 (TX3 1).1 (TX3 1).2.1 (TX3 1).2.2.1 ∈ zW := zW_of 269 (by decide +kernel) rfl
theorem fl_RX3_15 : Cond.fieldLink RX3 15 (TX3 2).1 (TX3 2).2.1 (TX3 2).2.2.1 ∈ zW := zW_of 270 (by decide +kernel) rfl
theorem fl_RX3_18 : Cond.fieldLink RX3 18 (TX3 3).1 (TX3 3).2.1 (TX3 3).2.2.1 ∈ zW := zW_of 271 (by decide +kernel) rfl
theorem fl_RX7_262 : Cond.fieldLink RX7 262 (TX3 3).1 (TX3 3).2.1 (TX3 3).2.2.1 ∈ zW := zW_of 272 (by decide +kernel) rfl
theorem fl_RX3_21 : Cond.fieldLink RX3 21 (TX3 4).1 (TX3 4).2.1 (TX3 4).2.2.1 ∈ zW := zW_of 273 (by decide +kernel) rfl
theorem fl_RX7_263 : Cond.fieldLink RX7 263 (TX3 4).1 (TX3 4).2.1 (TX3 4).2.2.1 ∈ zW := zW_of 274 (by decide +kernel) rfl
theorem fl_RX3_24 : Cond.fieldLink RX3 24 (TX3 5).1 (TX3 5).2.1 (TX3 5).2.2.1 ∈ zW := zW_of 275 (by decide +kernel) rfl
theorem fl_RX7_255 : Cond.fieldLink RX7 255 (TX3 5).1 (TX3 5).2.1 (TX3 5).2.2.1 ∈ zW := zW_of 276 (by decide +kernel) rfl
theorem fl_RX3_27 : Cond.fieldLink RX3 27 (TX3 6).1 (TX3 6).2.1 (TX3 6).2.2.1 ∈ zW := zW_of 277 (by decide +kernel) rfl
theorem fl_RX3_31 : Cond.fieldLink RX3 31 (TX3 7).1 (TX3 7).2.1 (TX3 7).2.2.1 ∈ zW := zW_of 278 (by decide +kernel) rfl
theorem fl_RX3_38 : Cond.fieldLink RX3 38 (TX3 8).1 (TX3 8).2.1 (TX3 8).2.2.1 ∈ zW := zW_of 279 (by decide +kernel) rfl
theorem fl_RX7_64 : Cond.fieldLink RX7 64 (TX3 8).1 (TX3 8).2.1 (TX3 8).2.2.1 ∈ zW := zW_of 280 (by decide +kernel) rfl
theorem fl_RX4_9 : Cond.fieldLink RX4 9 (TX4 0).1 (TX4 0).2.1 (TX4 0).2.2.1 ∈ zW := zW_of 306 (by decide +kernel) rfl
theorem fl_RX4_15 : Cond.fieldLink RX4 15 (TX4 1).1 (TX4 1).2.1 (TX4 1).2.2.1 ∈ zW := zW_of 307 (by decide +kernel) rfl
theorem fl_RX4_18 : Cond.fieldLink RX4 18 (TX4 2).1 (TX4 2).2.1 (TX4 2).2.2.1 ∈ zW := zW_of 308 (by decide +kernel) rfl
theorem fl_RX4_21 : Cond.fieldLink RX4 21 (TX4 3).1 (TX4 3).2.1 (TX4 3).2.2.1 ∈ zW := zW_of 309 (by decide +kernel) rfl
theorem fl_RX7_137 : Cond.fieldLink RX7 137 (TX4 3).1 (TX4 3).2.1 (TX4 3).2.2.1 ∈ zW := zW_of 310 (by decide +kernel) rfl
theorem fl_RX4_25 : Cond.fieldLink RX4 25 (TX4 4).1 (TX4 4).2.1 (TX4 4).2.2.1 ∈ zW := zW_of 311 (by decide +kernel) rfl
theorem fl_RX4_29 : Cond.fieldLink RX4 29 (TX4 5).1 (TX4 5).2.1 (TX4 5).2.2.1 ∈ zW := zW_of 312 (by decide +kernel) rfl
theorem fl_RX7_140 : Cond.fieldLink RX7 140 (TX4 5).1 (TX4 5).2.1 (TX4 5).2.2.1 ∈ zW := zW_of 313 (by decide +kernel) rfl
theorem ml_RX7_58 : Cond.methodLink RX7 58 yX7_startAnew ∈ zW := zW_of 327 (by decide +kernel) rfl
theorem ml_RX7_61 : Cond.methodLink RX7 61 yX0_clear ∈ zW := zW_of 331 (by decide +kernel) rfl
theorem ml_RX0_32 : Cond.methodLink RX0 32 yX0_setFree ∈ zW := zW_of 335 (by decide +kernel) rfl
theorem ml_RX7_68 : Cond.methodLink RX7 68 yX4_takeAway ∈ zW := zW_of 339 (by decide +kernel) rfl
theorem fl_RX7_25 : Cond.fieldLink RX7 25 (TX7 0).1 (TX7 0).2.1 (TX7 0).2.2.1 ∈ zW := zW_of 343 (by decide +kernel) rfl
theorem fl_RX7_29 : Cond.fieldLink RX7 29 (TX7 1).1 (TX7 1).2.1 (TX7 1).2.2.1 ∈ zW := zW_of 344 (by decide +kernel) rfl
theorem fl_RX7_38 : Cond.fieldLink RX7 38 (TX7 2).1 (TX7 2).2.1 (TX7 2).2.2.1 ∈ zW := zW_of 345 (by decide +kernel) rfl
theorem fl_RX9_147 : Cond.fieldLink RX9 147 (TX7 2).1 (TX7 2).2.1 (TX7 2).2.2.1 ∈ zW := zW_of 346 (by decide +kernel) rfl
theorem fl_RX7_47 : Cond.fieldLink RX7 47 (TX7 3).1 (TX7 3).2.1 (TX7 3).2.2.1 ∈ zW := zW_of 347 (by decide +kernel) rfl
theorem fl_RX9_123 : Cond.fieldLink RX9 123 (TX7 3).1 (TX7 3).2.1 (TX7 3).2.2.1 ∈ zW := zW_of 348 (by decide +kernel) rfl
theorem fl_RX7_54 : Cond.fieldLink RX7 54 (TX7 4).1 (TX7 4).2.1 (TX7 4).2.2.1 ∈ zW := zW_of 349 (by decide +kernel) rfl
theorem fl_RX9_132 : Cond.fieldLink RX9 132 (TX7 4).1 (TX7 4).2.1 (TX7 4).2.2.1 ∈ zW := zW_of 350 (by decide +kernel) rfl
theorem fl_RX7_9 : Cond.fieldLink RX7 9 (TX7 5).1 (TX7 5).2.1 (TX7 5).2.2.1 ∈ zW := zW_of 351 (by decide +kernel) rfl
theorem fl_RX7_15 : Cond.fieldLink RX7 15 (TX7 6).1 (TX7 6).2.1 (TX7 6).2.2.1 ∈ zW := zW_of 352 (by decide +kernel) rfl
theorem fl_RX7_18 : Cond.fieldLink RX7 18 (TX7 7).1 (TX7 7).2.1 (TX7 7).2.2.1 ∈ zW := zW_of 353 (by decide +kernel) rfl
theorem fl_RX7_22 : Cond.fieldLink RX7 22 (TX7 8).1 (TX7 8).2.1 (TX7 8).2.2.1 ∈ zW := zW_of 354 (by decide +kernel) rfl
theorem fl_RX7_71 : Cond.fieldLink RX7 71 (TX7 9).1 (TX7 9).2.1 (TX7 9).2.2.1 ∈ zW := zW_of 355 (by decide +kernel) rfl
theorem fl_RX7_74 : Cond.fieldLink RX7 74 (TX7 10).1 (TX7 10).2.1 (TX7 10).2.2.1 ∈ zW := zW_of 356 (by decide +kernel) rfl
theorem fl_RX7_77 : Cond.fieldLink RX7 77 (TX7 11).1 (TX7 11).2.1 (TX7 11).2.2.1 ∈ zW := zW_of 357 (by decide +kernel) rfl
theorem fl_RX7_85 : Cond.fieldLink RX7 85 (TX7 12).1 (TX7 12).2.1 (TX7 12).2.2.1 ∈ zW := zW_of 358 (by decide +kernel) rfl
theorem fl_RX9_159 : Cond.fieldLink RX9 159 (TX7 12).1 (TX7 12).2.1 (TX7 12).2.2.1 ∈ zW := zW_of 359 (by decide +kernel) rfl
theorem fl_RX7_86 : Cond.fieldLink RX7 86 (TX7 13).1 (TX7 13).2.1 (TX7 13).2.2.1 ∈ zW := zW_of 360 (by decide +kernel) rfl
theorem fl_RX7_89 : Cond.fieldLink RX7 89 (TX7 14).1 (TX7 14).2.1 (TX7 14).2.2.1 ∈ zW := zW_of 361 (by decide +kernel) rfl
theorem fl_RX7_92 : Cond.fieldLink RX7 92 (TX7 15).1 (TX7 15).2.1 (TX7 15).2.2.1 ∈ zW := zW_of 362 (by decide +kernel) rfl
theorem ml_RX9_60 : Cond.methodLink RX9 60 yX0_init ∈ zW := zW_of 397 (by decide +kernel) rfl
theorem ml_RX9_69 : Cond.methodLink RX9 69 yX1_init ∈ zW := zW_of 400 (by decide +kernel) rfl
theorem fl_RX1_23 : Cond.fieldLink RX1 23 (TX1 0).1 (TX1 0).2.1 (TX1 0).2.2.1 ∈ zW := zW_of 406 (by decide +kernel) rfl
theorem fl_RX1_9 : Cond.fieldLink RX1 9 (TX1 1).1 (TX1 1).2.1 (TX1 1).2.2.1 ∈ zW := zW_of 407 (by decide +kernel) rfl
theorem fl_RX1_17 : Cond.fieldLink RX1 17 (TX1 2).1 (TX1 2).2.1 (TX1 2).2.2.1 ∈ zW := zW_of 408 (by decide +kernel) rfl
theorem fl_RX1_20 : Cond.fieldLink RX1 20 (TX1 3).1 (TX1 3).2.1 (TX1 3).2.2.1 ∈ zW := zW_of 409 (by decide +kernel) rfl
theorem fl_RX9_12 : Cond.fieldLink RX9 12 (TX9 0).1 (TX9 0).2.1 (TX9 0).2.2.1 ∈ zW := zW_of 419 (by decide +kernel) rfl
theorem fl_RX9_19 : Cond.fieldLink RX9 19 (TX9 1).1 (TX9 1).2.1 (TX9 1).2.2.1 ∈ zW := zW_of 420 (by decide +kernel) rfl
theorem fl_RX9_23 : Cond.fieldLink RX9 23 (TX9 2).1 (TX9 2).2.1 (TX9 2).2.2.1 ∈ zW := zW_of 421 (by decide +kernel) rfl
theorem fl_RX9_31 : Cond.fieldLink RX9 31 (TX9 3).1 (TX9 3).2.1 (TX9 3).2.2.1 ∈ zW := zW_of 422 (by decide +kernel) rfl
theorem fl_RX9_35 : Cond.fieldLink RX9 35 (TX9 4).1 (TX9 4).2.1 (TX9 4).2.2.1 ∈ zW := zW_of 423 (by decide +kernel) rfl
theorem fl_RX9_42 : Cond.fieldLink RX9 42 (TX9 5).1 (TX9 5).2.1 (TX9 5).2.2.1 ∈ zW := zW_of 424 (by decide +kernel) rfl
theorem fl_RX9_51 : Cond.fieldLink RX9 51 (TX9 6).1 (TX9 6).2.1 (TX9 6).2.2.1 ∈ zW := zW_of 425 (by decide +kernel) rfl
theorem fl_RX9_55 : Cond.fieldLink RX9 55 (TX9 7).1 (TX9 7).2.1 (TX9 7).2.2.1 ∈ zW := zW_of 426 (by decide +kernel) rfl
theorem fl_RX9_63 : Cond.fieldLink RX9 63 (TX9 8).1 (TX9 8).2.1 (TX9 8).2.2.1 ∈ zW := zW_of 427 (by decide +kernel) rfl
theorem fl_RX9_72 : Cond.fieldLink RX9 72 (TX9 9).1 (TX9 9).2.1 (TX9 9).2.2.1 ∈ zW := zW_of 428 (by decide +kernel) rfl
theorem ml_RL_13 : Cond.methodLink RL 13 yX9_feed ∈ zW := zW_of 450 (by decide +kernel) rfl
theorem ml_RX9_80 : Cond.methodLink RX9 80 yX8_append ∈ zW := zW_of 454 (by decide +kernel) rfl
theorem ml_RL_18 : Cond.methodLink RL 18 yX9_end ∈ zW := zW_of 458 (by decide +kernel) rfl
theorem ml_RL_23 : Cond.methodLink RL 23 yX9_rules ∈ zW := zW_of 462 (by decide +kernel) rfl
theorem ml_RX9_87 : Cond.methodLink RX9 87 yX5_readTape ∈ zW := zW_of 466 (by decide +kernel) rfl
theorem ml_RX5_29 : Cond.methodLink RX5 29 yX6_clear ∈ zW := zW_of 470 (by decide +kernel) rfl
theorem ml_RX5_34 : Cond.methodLink RX5 34 yX5_skipBlanks ∈ zW := zW_of 471 (by decide +kernel) rfl
theorem ml_RX5_145 : Cond.methodLink RX5 145 yX8_byteAt ∈ zW := zW_of 475 (by decide +kernel) rfl
theorem ml_RX5_42 : Cond.methodLink RX5 42 yX5_readClause ∈ zW := zW_of 479 (by decide +kernel) rfl
theorem ml_RX5_50 : Cond.methodLink RX5 50 yX5_tookWord ∈ zW := zW_of 484 (by decide +kernel) rfl
theorem ml_RX5_152 : Cond.methodLink RX5 152 yJ0_length_8abf5 ∈ zW := zW_of 488 (by decide +kernel) rfl
theorem ml_RJ0_335 : Cond.methodLink RJ0 335 yJ0_coder_7d493 ∈ zW := zW_of 492 (by decide +kernel) rfl
theorem ml_RX5_156 : Cond.methodLink RX5 156 yJ0_charAt_5068e ∈ zW := zW_of 498 (by decide +kernel) rfl
theorem ml_RJ0_492 : Cond.methodLink RJ0 492 yJ0_isLatin1_aae02 ∈ zW := zW_of 502 (by decide +kernel) rfl
theorem ml_RJ0_495 : Cond.methodLink RJ0 495 yJ1_charAt_3b067 ∈ zW := zW_of 506 (by decide +kernel) rfl
theorem ml_RJ1_9 : Cond.methodLink RJ1 9 yJ0_checkIndex_df160 ∈ zW := zW_of 509 (by decide +kernel) rfl
theorem ml_RJ0_1059 : Cond.methodLink RJ0 1059 yJ3_checkIndex_8e157 ∈ zW := zW_of 514 (by decide +kernel) rfl
theorem ml_RJ0_498 : Cond.methodLink RJ0 498 yJ2_charAt_3b067 ∈ zW := zW_of 517 (by decide +kernel) rfl
theorem ml_RJ2_67 : Cond.methodLink RJ2 67 yJ2_checkIndex_2214a ∈ zW := zW_of 520 (by decide +kernel) rfl
theorem ml_RJ2_48 : Cond.methodLink RJ2 48 yJ2_length_9d52b ∈ zW := zW_of 523 (by decide +kernel) rfl
theorem ml_RJ2_414 : Cond.methodLink RJ2 414 yJ0_checkIndex_df160 ∈ zW := zW_of 526 (by decide +kernel) rfl
theorem ml_RJ2_71 : Cond.methodLink RJ2 71 yJ2_getChar_3b067 ∈ zW := zW_of 527 (by decide +kernel) rfl
theorem ml_RX5_160 : Cond.methodLink RX5 160 yX5_isSmallLetter ∈ zW := zW_of 536 (by decide +kernel) rfl
theorem ml_RX5_54 : Cond.methodLink RX5 54 yX5_readMotion ∈ zW := zW_of 539 (by decide +kernel) rfl
theorem ml_RX5_99 : Cond.methodLink RX5 99 yX5_readKind ∈ zW := zW_of 543 (by decide +kernel) rfl
theorem ml_RX5_138 : Cond.methodLink RX5 138 yX5_kindWord ∈ zW := zW_of 547 (by decide +kernel) rfl
theorem ml_RX5_96 : Cond.methodLink RX5 96 yX5_fail ∈ zW := zW_of 561 (by decide +kernel) rfl
theorem ml_RX5_107 : Cond.methodLink RX5 107 yX6_lets ∈ zW := zW_of 565 (by decide +kernel) rfl
theorem ml_RX5_112 : Cond.methodLink RX5 112 yX5_expectWord ∈ zW := zW_of 571 (by decide +kernel) rfl
theorem ml_RX5_63 : Cond.methodLink RX5 63 yX5_readNumber ∈ zW := zW_of 575 (by decide +kernel) rfl
theorem ml_RX5_149 : Cond.methodLink RX5 149 yX5_isDigit ∈ zW := zW_of 579 (by decide +kernel) rfl
theorem ml_RX5_135 : Cond.methodLink RX5 135 yX5_readWay ∈ zW := zW_of 585 (by decide +kernel) rfl
theorem ml_RX5_142 : Cond.methodLink RX5 142 yX5_wayWord ∈ zW := zW_of 589 (by decide +kernel) rfl
theorem ml_RX5_59 : Cond.methodLink RX5 59 yX5_tellOnce ∈ zW := zW_of 597 (by decide +kernel) rfl
theorem ml_RX5_79 : Cond.methodLink RX5 79 yX5_readChoice ∈ zW := zW_of 605 (by decide +kernel) rfl
theorem ml_RX5_45 : Cond.methodLink RX5 45 yX5_expectSemicolon ∈ zW := zW_of 612 (by decide +kernel) rfl
theorem ml_RX9_91 : Cond.methodLink RX9 91 yX6_copyFrom ∈ zW := zW_of 616 (by decide +kernel) rfl
theorem ml_RX9_95 : Cond.methodLink RX9 95 yX7_startAnew ∈ zW := zW_of 620 (by decide +kernel) rfl
theorem ml_RL_28 : Cond.methodLink RL 28 yX9_school ∈ zW := zW_of 621 (by decide +kernel) rfl
theorem ml_RX9_98 : Cond.methodLink RX9 98 yX9_isMember ∈ zW := zW_of 625 (by decide +kernel) rfl
theorem ml_RX9_102 : Cond.methodLink RX9 102 yX9_isSchool ∈ zW := zW_of 628 (by decide +kernel) rfl
theorem ml_RL_33 : Cond.methodLink RL 33 yX9_act ∈ zW := zW_of 631 (by decide +kernel) rfl
theorem ml_RX9_105 : Cond.methodLink RX9 105 yX2_add ∈ zW := zW_of 635 (by decide +kernel) rfl
theorem ml_RX9_109 : Cond.methodLink RX9 109 yX7_work ∈ zW := zW_of 642 (by decide +kernel) rfl
theorem ml_RX7_100 : Cond.methodLink RX7 100 yX7_refusalAtLarge ∈ zW := zW_of 647 (by decide +kernel) rfl
theorem ml_RX7_144 : Cond.methodLink RX7 144 yX7_numbersAreAsTold ∈ zW := zW_of 651 (by decide +kernel) rfl
theorem ml_RX7_147 : Cond.methodLink RX7 147 yX7_isOfMember ∈ zW := zW_of 657 (by decide +kernel) rfl
theorem ml_RX7_153 : Cond.methodLink RX7 153 yX7_isThere ∈ zW := zW_of 660 (by decide +kernel) rfl
theorem ml_RX7_123 : Cond.methodLink RX7 123 yJ6_bitCount_0f7a4 ∈ zW := zW_of 664 (by decide +kernel) rfl
theorem co_RJ6_265 : Cond.constant RJ6 265 1431655765 ∈ zW := zW_of 667 (by decide +kernel) rfl
theorem co_RJ6_266 : Cond.constant RJ6 266 858993459 ∈ zW := zW_of 668 (by decide +kernel) rfl
theorem co_RJ6_267 : Cond.constant RJ6 267 252645135 ∈ zW := zW_of 669 (by decide +kernel) rfl
theorem ml_RX7_104 : Cond.methodLink RX7 104 yX7_isInOrder ∈ zW := zW_of 670 (by decide +kernel) rfl
theorem ml_RX7_171 : Cond.methodLink RX7 171 yX0_mayAsk ∈ zW := zW_of 674 (by decide +kernel) rfl
theorem ml_RX0_42 : Cond.methodLink RX0 42 yX0_queuePlaceOf ∈ zW := zW_of 678 (by decide +kernel) rfl
theorem ml_RX7_174 : Cond.methodLink RX7 174 yX0_mayYieldTo ∈ zW := zW_of 682 (by decide +kernel) rfl
theorem ml_RX7_177 : Cond.methodLink RX7 177 yX7_mayMove ∈ zW := zW_of 686 (by decide +kernel) rfl
theorem ml_RX7_187 : Cond.methodLink RX7 187 yX6_lets ∈ zW := zW_of 690 (by decide +kernel) rfl
theorem ml_RX7_190 : Cond.methodLink RX7 190 yX3_isFull ∈ zW := zW_of 691 (by decide +kernel) rfl
theorem ml_RX7_194 : Cond.methodLink RX7 194 yX3_has ∈ zW := zW_of 695 (by decide +kernel) rfl
theorem ml_RX7_197 : Cond.methodLink RX7 197 yX7_mayAppeal ∈ zW := zW_of 699 (by decide +kernel) rfl
theorem ml_RX7_120 : Cond.methodLink RX7 120 yX7_isWorked ∈ zW := zW_of 703 (by decide +kernel) rfl
theorem ml_RX7_200 : Cond.methodLink RX7 200 yX3_isOutrankedBy ∈ zW := zW_of 707 (by decide +kernel) rfl
theorem ml_RX3_42 : Cond.methodLink RX3 42 yX3_top ∈ zW := zW_of 711 (by decide +kernel) rfl
theorem ml_RX3_46 : Cond.methodLink RX3 46 yX6_rankOf ∈ zW := zW_of 715 (by decide +kernel) rfl
theorem ml_RX7_203 : Cond.methodLink RX7 203 yX7_mayMoveKind ∈ zW := zW_of 719 (by decide +kernel) rfl
theorem ml_RX7_206 : Cond.methodLink RX7 206 yX4_mayAmend ∈ zW := zW_of 723 (by decide +kernel) rfl
theorem ml_RX4_39 : Cond.methodLink RX4 39 yX4_isThere ∈ zW := zW_of 727 (by decide +kernel) rfl
theorem ml_RX4_43 : Cond.methodLink RX4 43 yX4_behind ∈ zW := zW_of 731 (by decide +kernel) rfl
theorem ml_RX7_180 : Cond.methodLink RX7 180 yX3_maySecond ∈ zW := zW_of 735 (by decide +kernel) rfl
theorem ml_RX7_183 : Cond.methodLink RX7 183 yX3_mayDecide ∈ zW := zW_of 739 (by decide +kernel) rfl
theorem ml_RX7_107 : Cond.methodLink RX7 107 yX7_hasOther ∈ zW := zW_of 744 (by decide +kernel) rfl
theorem ml_RX7_111 : Cond.methodLink RX7 111 yX7_perform ∈ zW := zW_of 748 (by decide +kernel) rfl
theorem ml_RX7_209 : Cond.methodLink RX7 209 yX0_drop ∈ zW := zW_of 752 (by decide +kernel) rfl
theorem ml_RX0_51 : Cond.methodLink RX0 51 yX0_dequeue ∈ zW := zW_of 756 (by decide +kernel) rfl
theorem ml_RX7_212 : Cond.methodLink RX7 212 yX0_enqueue ∈ zW := zW_of 760 (by decide +kernel) rfl
theorem ml_RX7_215 : Cond.methodLink RX7 215 yX0_callNext ∈ zW := zW_of 764 (by decide +kernel) rfl
theorem ml_RX0_55 : Cond.methodLink RX0 55 yX0_nextPlace ∈ zW := zW_of 768 (by decide +kernel) rfl
theorem ml_RX0_69 : Cond.methodLink RX0 69 yX0_countedSpeeches ∈ zW := zW_of 772 (by decide +kernel) rfl
theorem ml_RX7_218 : Cond.methodLink RX7 218 yX3_debateTop ∈ zW := zW_of 777 (by decide +kernel) rfl
theorem ml_RX7_221 : Cond.methodLink RX7 221 yX7_letTicksGo ∈ zW := zW_of 781 (by decide +kernel) rfl
theorem ml_RX7_237 : Cond.methodLink RX7 237 yX0_spend ∈ zW := zW_of 785 (by decide +kernel) rfl
theorem ml_RX0_63 : Cond.methodLink RX0 63 yJ9_max_7cf53 ∈ zW := zW_of 789 (by decide +kernel) rfl
theorem ml_RX7_240 : Cond.methodLink RX7 240 yJ9_max_7cf53 ∈ zW := zW_of 792 (by decide +kernel) rfl
theorem ml_RX7_224 : Cond.methodLink RX7 224 yX0_yieldTo ∈ zW := zW_of 793 (by decide +kernel) rfl
theorem ml_RX7_227 : Cond.methodLink RX7 227 yX3_push ∈ zW := zW_of 797 (by decide +kernel) rfl
theorem ml_RX3_59 : Cond.methodLink RX3 59 yX3_isFull ∈ zW := zW_of 801 (by decide +kernel) rfl
theorem ml_RX7_231 : Cond.methodLink RX7 231 yX3_secondTop ∈ zW := zW_of 802 (by decide +kernel) rfl
theorem ml_RX7_234 : Cond.methodLink RX7 234 yX7_decide ∈ zW := zW_of 806 (by decide +kernel) rfl
theorem ml_RX7_246 : Cond.methodLink RX7 246 yX3_top ∈ zW := zW_of 810 (by decide +kernel) rfl
theorem ml_RX7_251 : Cond.methodLink RX7 251 yX7_isCarried ∈ zW := zW_of 811 (by decide +kernel) rfl
theorem ml_RX7_258 : Cond.methodLink RX7 258 yX7_settleAppeal ∈ zW := zW_of 815 (by decide +kernel) rfl
theorem ml_RX7_264 : Cond.methodLink RX7 264 yX7_carryOut ∈ zW := zW_of 819 (by decide +kernel) rfl
theorem ml_RX7_271 : Cond.methodLink RX7 271 yX4_lay ∈ zW := zW_of 823 (by decide +kernel) rfl
theorem ml_RX4_32 : Cond.methodLink RX4 32 yX4_takeAway ∈ zW := zW_of 827 (by decide +kernel) rfl
theorem ml_RX4_35 : Cond.methodLink RX4 35 yX4_insert ∈ zW := zW_of 828 (by decide +kernel) rfl
theorem ml_RX7_275 : Cond.methodLink RX7 275 yX4_amend ∈ zW := zW_of 832 (by decide +kernel) rfl
theorem ml_RX4_47 : Cond.methodLink RX4 47 yX4_addBehind ∈ zW := zW_of 836 (by decide +kernel) rfl
theorem ml_RX4_63 : Cond.methodLink RX4 63 yX4_wasEver ∈ zW := zW_of 840 (by decide +kernel) rfl
theorem ml_RX4_50 : Cond.methodLink RX4 50 yX4_remove ∈ zW := zW_of 844 (by decide +kernel) rfl
theorem ml_RX4_54 : Cond.methodLink RX4 54 yX4_textOf ∈ zW := zW_of 848 (by decide +kernel) rfl
theorem ml_RX4_57 : Cond.methodLink RX4 57 yJ9_max_7cf53 ∈ zW := zW_of 852 (by decide +kernel) rfl
theorem ml_RX7_278 : Cond.methodLink RX7 278 yX3_endDebate ∈ zW := zW_of 853 (by decide +kernel) rfl
theorem ml_RX9_113 : Cond.methodLink RX9 113 yX7_rulingOf ∈ zW := zW_of 857 (by decide +kernel) rfl
theorem ml_RL_37 : Cond.methodLink RL 37 yX9_ruling ∈ zW := zW_of 861 (by decide +kernel) rfl
theorem ml_RL_41 : Cond.methodLink RL 41 yX9_passed ∈ zW := zW_of 865 (by decide +kernel) rfl
theorem ml_RX9_117 : Cond.methodLink RX9 117 yX7_passedOf ∈ zW := zW_of 869 (by decide +kernel) rfl
theorem ml_RL_45 : Cond.methodLink RL 45 yX9_state ∈ zW := zW_of 873 (by decide +kernel) rfl
theorem ml_RX9_120 : Cond.methodLink RX9 120 yX7_tell ∈ zW := zW_of 877 (by decide +kernel) rfl
theorem ml_RL_49 : Cond.methodLink RL 49 yX9_pending ∈ zW := zW_of 881 (by decide +kernel) rfl
theorem ml_RX9_127 : Cond.methodLink RX9 127 yX3_tell ∈ zW := zW_of 885 (by decide +kernel) rfl
theorem ml_RL_54 : Cond.methodLink RL 54 yX9_clause ∈ zW := zW_of 889 (by decide +kernel) rfl
theorem ml_RX9_136 : Cond.methodLink RX9 136 yX4_numberAt ∈ zW := zW_of 893 (by decide +kernel) rfl
theorem ml_RX9_141 : Cond.methodLink RX9 141 yX4_textOf ∈ zW := zW_of 897 (by decide +kernel) rfl
theorem ml_RL_58 : Cond.methodLink RL 58 yX9_place ∈ zW := zW_of 898 (by decide +kernel) rfl
theorem ml_RX9_144 : Cond.methodLink RX9 144 yX4_placeOf ∈ zW := zW_of 902 (by decide +kernel) rfl
theorem ml_RL_62 : Cond.methodLink RL 62 yX9_speeches ∈ zW := zW_of 906 (by decide +kernel) rfl
theorem ml_RL_66 : Cond.methodLink RL 66 yX9_waits ∈ zW := zW_of 910 (by decide +kernel) rfl
theorem ml_RX9_156 : Cond.methodLink RX9 156 yX0_copyFrom ∈ zW := zW_of 914 (by decide +kernel) rfl
theorem ml_RX9_162 : Cond.methodLink RX9 162 yX0_callNext ∈ zW := zW_of 918 (by decide +kernel) rfl
theorem ml_RL_70 : Cond.methodLink RL 70 yX9_overturned ∈ zW := zW_of 919 (by decide +kernel) rfl
theorem ml_RX9_168 : Cond.methodLink RX9 168 yX7_overturnedOf ∈ zW := zW_of 923 (by decide +kernel) rfl
theorem ml_RL_74 : Cond.methodLink RL 74 yX9_beside ∈ zW := zW_of 927 (by decide +kernel) rfl
theorem ml_RL_78 : Cond.methodLink RL 78 yX9_score ∈ zW := zW_of 931 (by decide +kernel) rfl
theorem ml_RX9_171 : Cond.methodLink RX9 171 yX1_take ∈ zW := zW_of 935 (by decide +kernel) rfl
theorem ml_RL_83 : Cond.methodLink RL 83 yX9_mean ∈ zW := zW_of 941 (by decide +kernel) rfl
theorem ml_RX9_175 : Cond.methodLink RX9 175 yX1_meanOf ∈ zW := zW_of 945 (by decide +kernel) rfl
theorem ml_RX1_33 : Cond.methodLink RX1 33 yX1_counts ∈ zW := zW_of 949 (by decide +kernel) rfl
theorem ml_RX1_37 : Cond.methodLink RX1 37 yX1_scaled ∈ zW := zW_of 953 (by decide +kernel) rfl
theorem ml_RX1_48 : Cond.methodLink RX1 48 yJ9_min_7cf53 ∈ zW := zW_of 957 (by decide +kernel) rfl
theorem ml_RX1_53 : Cond.methodLink RX1 53 yJ9_max_7cf53 ∈ zW := zW_of 960 (by decide +kernel) rfl
theorem ml_RL_87 : Cond.methodLink RL 87 yX9_award ∈ zW := zW_of 961 (by decide +kernel) rfl
theorem ml_RX9_178 : Cond.methodLink RX9 178 yX1_memberAt ∈ zW := zW_of 965 (by decide +kernel) rfl
theorem ml_RX1_41 : Cond.methodLink RX1 41 yX1_meanOf ∈ zW := zW_of 969 (by decide +kernel) rfl
theorem ml_RX1_45 : Cond.methodLink RX1 45 yX1_countAheadOf ∈ zW := zW_of 970 (by decide +kernel) rfl
theorem ml_RL_91 : Cond.methodLink RL 91 yX9_told ∈ zW := zW_of 974 (by decide +kernel) rfl
theorem ml_RL_12 : Cond.methodLink RL 12 yX10_init ∈ zW := zW_of 980 (by decide +kernel) rfl
theorem ml_RX10_140 : Cond.methodLink RX10 140 yX10_begin ∈ zW := zW_of 987 (by decide +kernel) rfl
theorem fl_RX10_7 : Cond.fieldLink RX10 7 (TX10 1).1 (TX10 1).2.1 (TX10 1).2.2.1 ∈ zW := zW_of 991 (by decide +kernel) rfl
theorem fl_RX10_146 : Cond.fieldLink RX10 146 (TX10 2).1 (TX10 2).2.1 (TX10 2).2.2.1 ∈ zW := zW_of 992 (by decide +kernel) rfl
theorem fl_RX10_156 : Cond.fieldLink RX10 156 (TX10 3).1 (TX10 3).2.1 (TX10 3).2.2.1 ∈ zW := zW_of 993 (by decide +kernel) rfl
theorem fl_RX10_159 : Cond.fieldLink RX10 159 (TX10 4).1 (TX10 4).2.1 (TX10 4).2.2.1 ∈ zW := zW_of 994 (by decide +kernel) rfl
theorem fl_RX10_153 : Cond.fieldLink RX10 153 (TX10 5).1 (TX10 5).2.1 (TX10 5).2.2.1 ∈ zW := zW_of 995 (by decide +kernel) rfl
theorem fl_RX10_13 : Cond.fieldLink RX10 13 (TX10 6).1 (TX10 6).2.1 (TX10 6).2.2.1 ∈ zW := zW_of 996 (by decide +kernel) rfl
theorem fl_RX10_19 : Cond.fieldLink RX10 19 (TX10 7).1 (TX10 7).2.1 (TX10 7).2.2.1 ∈ zW := zW_of 997 (by decide +kernel) rfl
theorem fl_RX10_22 : Cond.fieldLink RX10 22 (TX10 8).1 (TX10 8).2.1 (TX10 8).2.2.1 ∈ zW := zW_of 998 (by decide +kernel) rfl
theorem fl_RX10_27 : Cond.fieldLink RX10 27 (TX10 9).1 (TX10 9).2.1 (TX10 9).2.2.1 ∈ zW := zW_of 999 (by decide +kernel) rfl
theorem fl_RX10_30 : Cond.fieldLink RX10 30 (TX10 10).1 (TX10 10).2.1 (TX10 10).2.2.1 ∈ zW := zW_of 1000 (by decide +kernel) rfl
theorem fl_RX10_33 : Cond.fieldLink RX10 33 (TX10 11).1 (TX10 11).2.1 (TX10 11).2.2.1 ∈ zW := zW_of 1001 (by decide +kernel) rfl
theorem fl_RX10_37 : Cond.fieldLink RX10 37 (TX10 12).1 (TX10 12).2.1 (TX10 12).2.2.1 ∈ zW := zW_of 1002 (by decide +kernel) rfl
theorem fl_RX10_40 : Cond.fieldLink RX10 40 (TX10 13).1 (TX10 13).2.1 (TX10 13).2.2.1 ∈ zW := zW_of 1003 (by decide +kernel) rfl
theorem fl_RX10_43 : Cond.fieldLink RX10 43 (TX10 14).1 (TX10 14).2.1 (TX10 14).2.2.1 ∈ zW := zW_of 1004 (by decide +kernel) rfl
theorem fl_RX10_46 : Cond.fieldLink RX10 46 (TX10 15).1 (TX10 15).2.1 (TX10 15).2.2.1 ∈ zW := zW_of 1005 (by decide +kernel) rfl
theorem fl_RX10_259 : Cond.fieldLink RX10 259 (TX10 16).1 (TX10 16).2.1 (TX10 16).2.2.1 ∈ zW := zW_of 1006 (by decide +kernel) rfl
theorem fl_RX10_49 : Cond.fieldLink RX10 49 (TX10 17).1 (TX10 17).2.1 (TX10 17).2.2.1 ∈ zW := zW_of 1007 (by decide +kernel) rfl
theorem fl_RX10_52 : Cond.fieldLink RX10 52 (TX10 18).1 (TX10 18).2.1 (TX10 18).2.2.1 ∈ zW := zW_of 1008 (by decide +kernel) rfl
theorem fl_RX10_55 : Cond.fieldLink RX10 55 (TX10 19).1 (TX10 19).2.1 (TX10 19).2.2.1 ∈ zW := zW_of 1009 (by decide +kernel) rfl
theorem fl_RX10_58 : Cond.fieldLink RX10 58 (TX10 20).1 (TX10 20).2.1 (TX10 20).2.2.1 ∈ zW := zW_of 1010 (by decide +kernel) rfl
theorem fl_RX10_61 : Cond.fieldLink RX10 61 (TX10 21).1 (TX10 21).2.1 (TX10 21).2.2.1 ∈ zW := zW_of 1011 (by decide +kernel) rfl
theorem fl_RX10_64 : Cond.fieldLink RX10 64 (TX10 22).1 (TX10 22).2.1 (TX10 22).2.2.1 ∈ zW := zW_of 1012 (by decide +kernel) rfl
theorem fl_RX10_67 : Cond.fieldLink RX10 67 (TX10 23).1 (TX10 23).2.1 (TX10 23).2.2.1 ∈ zW := zW_of 1013 (by decide +kernel) rfl
theorem fl_RX10_70 : Cond.fieldLink RX10 70 (TX10 24).1 (TX10 24).2.1 (TX10 24).2.2.1 ∈ zW := zW_of 1014 (by decide +kernel) rfl
theorem fl_RX10_265 : Cond.fieldLink RX10 265 (TX10 25).1 (TX10 25).2.1 (TX10 25).2.2.1 ∈ zW := zW_of 1015 (by decide +kernel) rfl
theorem fl_RX10_73 : Cond.fieldLink RX10 73 (TX10 26).1 (TX10 26).2.1 (TX10 26).2.2.1 ∈ zW := zW_of 1016 (by decide +kernel) rfl
theorem fl_RX10_377 : Cond.fieldLink RX10 377 (TX10 27).1 (TX10 27).2.1 (TX10 27).2.2.1 ∈ zW := zW_of 1017 (by decide +kernel) rfl
theorem fl_RX10_77 : Cond.fieldLink RX10 77 (TX10 28).1 (TX10 28).2.1 (TX10 28).2.2.1 ∈ zW := zW_of 1018 (by decide +kernel) rfl
theorem fl_RX10_80 : Cond.fieldLink RX10 80 (TX10 29).1 (TX10 29).2.1 (TX10 29).2.2.1 ∈ zW := zW_of 1019 (by decide +kernel) rfl
theorem fl_RX10_83 : Cond.fieldLink RX10 83 (TX10 30).1 (TX10 30).2.1 (TX10 30).2.2.1 ∈ zW := zW_of 1020 (by decide +kernel) rfl
theorem fl_RX10_268 : Cond.fieldLink RX10 268 (TX10 31).1 (TX10 31).2.1 (TX10 31).2.2.1 ∈ zW := zW_of 1021 (by decide +kernel) rfl
theorem fl_RX10_271 : Cond.fieldLink RX10 271 (TX10 32).1 (TX10 32).2.1 (TX10 32).2.2.1 ∈ zW := zW_of 1022 (by decide +kernel) rfl
theorem fl_RX10_274 : Cond.fieldLink RX10 274 (TX10 33).1 (TX10 33).2.1 (TX10 33).2.2.1 ∈ zW := zW_of 1023 (by decide +kernel) rfl
theorem fl_RX10_277 : Cond.fieldLink RX10 277 (TX10 34).1 (TX10 34).2.1 (TX10 34).2.2.1 ∈ zW := zW_of 1024 (by decide +kernel) rfl
theorem fl_RX10_280 : Cond.fieldLink RX10 280 (TX10 35).1 (TX10 35).2.1 (TX10 35).2.2.1 ∈ zW := zW_of 1025 (by decide +kernel) rfl
theorem fl_RX10_283 : Cond.fieldLink RX10 283 (TX10 36).1 (TX10 36).2.1 (TX10 36).2.2.1 ∈ zW := zW_of 1026 (by decide +kernel) rfl
theorem fl_RX10_286 : Cond.fieldLink RX10 286 (TX10 37).1 (TX10 37).2.1 (TX10 37).2.2.1 ∈ zW := zW_of 1027 (by decide +kernel) rfl
theorem fl_RX10_290 : Cond.fieldLink RX10 290 (TX10 38).1 (TX10 38).2.1 (TX10 38).2.2.1 ∈ zW := zW_of 1028 (by decide +kernel) rfl
theorem fl_RX10_293 : Cond.fieldLink RX10 293 (TX10 39).1 (TX10 39).2.1 (TX10 39).2.2.1 ∈ zW := zW_of 1029 (by decide +kernel) rfl
theorem fl_RX10_86 : Cond.fieldLink RX10 86 (TX10 40).1 (TX10 40).2.1 (TX10 40).2.2.1 ∈ zW := zW_of 1030 (by decide +kernel) rfl
theorem fl_RX10_89 : Cond.fieldLink RX10 89 (TX10 41).1 (TX10 41).2.1 (TX10 41).2.2.1 ∈ zW := zW_of 1031 (by decide +kernel) rfl
theorem fl_RX10_92 : Cond.fieldLink RX10 92 (TX10 42).1 (TX10 42).2.1 (TX10 42).2.2.1 ∈ zW := zW_of 1032 (by decide +kernel) rfl
theorem fl_RX10_95 : Cond.fieldLink RX10 95 (TX10 43).1 (TX10 43).2.1 (TX10 43).2.2.1 ∈ zW := zW_of 1033 (by decide +kernel) rfl
theorem fl_RX10_98 : Cond.fieldLink RX10 98 (TX10 44).1 (TX10 44).2.1 (TX10 44).2.2.1 ∈ zW := zW_of 1034 (by decide +kernel) rfl
theorem fl_RX10_101 : Cond.fieldLink RX10 101 (TX10 45).1 (TX10 45).2.1 (TX10 45).2.2.1 ∈ zW := zW_of 1035 (by decide +kernel) rfl
theorem fl_RX10_104 : Cond.fieldLink RX10 104 (TX10 46).1 (TX10 46).2.1 (TX10 46).2.2.1 ∈ zW := zW_of 1036 (by decide +kernel) rfl
theorem fl_RX10_107 : Cond.fieldLink RX10 107 (TX10 47).1 (TX10 47).2.1 (TX10 47).2.2.1 ∈ zW := zW_of 1037 (by decide +kernel) rfl
theorem fl_RX10_296 : Cond.fieldLink RX10 296 (TX10 48).1 (TX10 48).2.1 (TX10 48).2.2.1 ∈ zW := zW_of 1038 (by decide +kernel) rfl
theorem fl_RX10_299 : Cond.fieldLink RX10 299 (TX10 49).1 (TX10 49).2.1 (TX10 49).2.2.1 ∈ zW := zW_of 1039 (by decide +kernel) rfl
theorem fl_RX10_302 : Cond.fieldLink RX10 302 (TX10 50).1 (TX10 50).2.1 (TX10 50).2.2.1 ∈ zW := zW_of 1040 (by decide +kernel) rfl
theorem fl_RX10_110 : Cond.fieldLink RX10 110 (TX10 51).1 (TX10 51).2.1 (TX10 51).2.2.1 ∈ zW := zW_of 1041 (by decide +kernel) rfl
theorem fl_RX10_113 : Cond.fieldLink RX10 113 (TX10 52).1 (TX10 52).2.1 (TX10 52).2.2.1 ∈ zW := zW_of 1042 (by decide +kernel) rfl
theorem fl_RX10_116 : Cond.fieldLink RX10 116 (TX10 53).1 (TX10 53).2.1 (TX10 53).2.2.1 ∈ zW := zW_of 1043 (by decide +kernel) rfl
theorem fl_RX10_119 : Cond.fieldLink RX10 119 (TX10 54).1 (TX10 54).2.1 (TX10 54).2.2.1 ∈ zW := zW_of 1044 (by decide +kernel) rfl
theorem fl_RX10_122 : Cond.fieldLink RX10 122 (TX10 55).1 (TX10 55).2.1 (TX10 55).2.2.1 ∈ zW := zW_of 1045 (by decide +kernel) rfl
theorem fl_RX10_125 : Cond.fieldLink RX10 125 (TX10 56).1 (TX10 56).2.1 (TX10 56).2.2.1 ∈ zW := zW_of 1046 (by decide +kernel) rfl
theorem fl_RX10_128 : Cond.fieldLink RX10 128 (TX10 57).1 (TX10 57).2.1 (TX10 57).2.2.1 ∈ zW := zW_of 1047 (by decide +kernel) rfl
theorem fl_RX10_131 : Cond.fieldLink RX10 131 (TX10 58).1 (TX10 58).2.1 (TX10 58).2.2.1 ∈ zW := zW_of 1048 (by decide +kernel) rfl
theorem fl_RX10_134 : Cond.fieldLink RX10 134 (TX10 59).1 (TX10 59).2.1 (TX10 59).2.2.1 ∈ zW := zW_of 1049 (by decide +kernel) rfl
theorem fl_RX10_137 : Cond.fieldLink RX10 137 (TX10 60).1 (TX10 60).2.1 (TX10 60).2.2.1 ∈ zW := zW_of 1050 (by decide +kernel) rfl
theorem ml_RL_17 : Cond.methodLink RL 17 yX10_feed ∈ zW := zW_of 1174 (by decide +kernel) rfl
theorem ml_RX10_149 : Cond.methodLink RX10 149 yX10_put ∈ zW := zW_of 1178 (by decide +kernel) rfl
theorem ml_RL_22 : Cond.methodLink RL 22 yX10_end ∈ zW := zW_of 1182 (by decide +kernel) rfl
theorem ml_RL_27 : Cond.methodLink RL 27 yX10_rules ∈ zW := zW_of 1186 (by decide +kernel) rfl
theorem ml_RX10_162 : Cond.methodLink RX10 162 yX10_isEnd ∈ zW := zW_of 1190 (by decide +kernel) rfl
theorem ml_RX10_262 : Cond.methodLink RX10 262 yX10_clause ∈ zW := zW_of 1194 (by decide +kernel) rfl
theorem ml_RX10_217 : Cond.methodLink RX10 217 yX10_word ∈ zW := zW_of 1198 (by decide +kernel) rfl
theorem ml_RX10_166 : Cond.methodLink RX10 166 yX10_isLetter ∈ zW := zW_of 1202 (by decide +kernel) rfl
theorem ml_RX10_169 : Cond.methodLink RX10 169 yX10_fails ∈ zW := zW_of 1206 (by decide +kernel) rfl
theorem ml_RX10_220 : Cond.methodLink RX10 220 yX10_is ∈ zW := zW_of 1211 (by decide +kernel) rfl
theorem ml_RX10_173 : Cond.methodLink RX10 173 yJ0_length_8abf5 ∈ zW := zW_of 1215 (by decide +kernel) rfl
theorem ml_RX10_179 : Cond.methodLink RX10 179 yJ0_charAt_5068e ∈ zW := zW_of 1216 (by decide +kernel) rfl
theorem ml_RX10_246 : Cond.methodLink RX10 246 yX10_motion ∈ zW := zW_of 1217 (by decide +kernel) rfl
theorem ml_RX10_224 : Cond.methodLink RX10 224 yX10_kindOf ∈ zW := zW_of 1221 (by decide +kernel) rfl
theorem ml_RX10_229 : Cond.methodLink RX10 229 yX10_one ∈ zW := zW_of 1234 (by decide +kernel) rfl
theorem ml_RX10_233 : Cond.methodLink RX10 233 yX10_number ∈ zW := zW_of 1238 (by decide +kernel) rfl
theorem co_RX10_183 : Cond.constant RX10 183 1000000 ∈ zW := zW_of 1242 (by decide +kernel) rfl
theorem ml_RX10_184 : Cond.methodLink RX10 184 yX10_in ∈ zW := zW_of 1243 (by decide +kernel) rfl
theorem ml_RX10_241 : Cond.methodLink RX10 241 yX10_wayOf ∈ zW := zW_of 1249 (by decide +kernel) rfl
theorem ml_RX10_248 : Cond.methodLink RX10 248 yX10_clauseOf ∈ zW := zW_of 1257 (by decide +kernel) rfl
theorem ml_RL_32 : Cond.methodLink RL 32 yX10_school ∈ zW := zW_of 1269 (by decide +kernel) rfl
theorem ml_RL_36 : Cond.methodLink RL 36 yX10_act ∈ zW := zW_of 1273 (by decide +kernel) rfl
theorem ml_RX10_383 : Cond.methodLink RX10 383 yX10_works ∈ zW := zW_of 1277 (by decide +kernel) rfl
theorem ml_RX10_374 : Cond.methodLink RX10 374 yX10_rule ∈ zW := zW_of 1281 (by decide +kernel) rfl
theorem ml_RX10_309 : Cond.methodLink RX10 309 yX10_isWrong ∈ zW := zW_of 1285 (by decide +kernel) rfl
theorem ml_RX10_313 : Cond.methodLink RX10 313 yX10_there ∈ zW := zW_of 1289 (by decide +kernel) rfl
theorem ml_RX10_316 : Cond.methodLink RX10 316 yX10_isInOrder ∈ zW := zW_of 1293 (by decide +kernel) rfl
theorem ml_RX10_319 : Cond.methodLink RX10 319 yX10_waitsFor ∈ zW := zW_of 1297 (by decide +kernel) rfl
theorem ml_RX10_323 : Cond.methodLink RX10 323 yX10_mayMove ∈ zW := zW_of 1301 (by decide +kernel) rfl
theorem ml_RX10_326 : Cond.methodLink RX10 326 yX10_refused ∈ zW := zW_of 1305 (by decide +kernel) rfl
theorem ml_RX10_330 : Cond.methodLink RX10 330 yX10_mayAmend ∈ zW := zW_of 1309 (by decide +kernel) rfl
theorem ml_RX10_333 : Cond.methodLink RX10 333 yX10_placeOf ∈ zW := zW_of 1313 (by decide +kernel) rfl
theorem ml_RX10_380 : Cond.methodLink RX10 380 yX10_does ∈ zW := zW_of 1317 (by decide +kernel) rfl
theorem ml_RX10_336 : Cond.methodLink RX10 336 yX10_leaves ∈ zW := zW_of 1321 (by decide +kernel) rfl
theorem ml_RX10_339 : Cond.methodLink RX10 339 yX10_free ∈ zW := zW_of 1325 (by decide +kernel) rfl
theorem ml_RX10_342 : Cond.methodLink RX10 342 yX10_next ∈ zW := zW_of 1329 (by decide +kernel) rfl
theorem ml_RX10_305 : Cond.methodLink RX10 305 yX10_spoke ∈ zW := zW_of 1333 (by decide +kernel) rfl
theorem ml_RX10_346 : Cond.methodLink RX10 346 yX10_moves ∈ zW := zW_of 1337 (by decide +kernel) rfl
theorem ml_RX10_349 : Cond.methodLink RX10 349 yX10_isPassing ∈ zW := zW_of 1341 (by decide +kernel) rfl
theorem ml_RX10_356 : Cond.methodLink RX10 356 yX10_many ∈ zW := zW_of 1345 (by decide +kernel) rfl
theorem ml_RX10_352 : Cond.methodLink RX10 352 yX10_votes ∈ zW := zW_of 1348 (by decide +kernel) rfl
theorem ml_RX10_359 : Cond.methodLink RX10 359 yX10_papers ∈ zW := zW_of 1352 (by decide +kernel) rfl
theorem ml_RX10_362 : Cond.methodLink RX10 362 yX10_amends ∈ zW := zW_of 1356 (by decide +kernel) rfl
theorem ml_RX10_365 : Cond.methodLink RX10 365 yX10_behindGone ∈ zW := zW_of 1360 (by decide +kernel) rfl
theorem ml_RX10_368 : Cond.methodLink RX10 368 yX10_adds ∈ zW := zW_of 1364 (by decide +kernel) rfl
theorem ml_RX10_371 : Cond.methodLink RX10 371 yX10_goes ∈ zW := zW_of 1368 (by decide +kernel) rfl
theorem ml_RL_77 : Cond.methodLink RL 77 yX10_beside ∈ zW := zW_of 1372 (by decide +kernel) rfl
theorem ml_RX10_386 : Cond.methodLink RX10 386 yX10_again ∈ zW := zW_of 1376 (by decide +kernel) rfl
theorem ml_RX10_389 : Cond.methodLink RX10 389 yX10_state ∈ zW := zW_of 1380 (by decide +kernel) rfl
theorem ml_RL_40 : Cond.methodLink RL 40 yX10_ruling ∈ zW := zW_of 1384 (by decide +kernel) rfl
theorem ml_RL_44 : Cond.methodLink RL 44 yX10_passed ∈ zW := zW_of 1388 (by decide +kernel) rfl
theorem ml_RL_48 : Cond.methodLink RL 48 yX10_state ∈ zW := zW_of 1392 (by decide +kernel) rfl
theorem ml_RL_53 : Cond.methodLink RL 53 yX10_pending ∈ zW := zW_of 1393 (by decide +kernel) rfl
theorem ml_RL_57 : Cond.methodLink RL 57 yX10_clause_ ∈ zW := zW_of 1397 (by decide +kernel) rfl
theorem ml_RL_61 : Cond.methodLink RL 61 yX10_place ∈ zW := zW_of 1401 (by decide +kernel) rfl
theorem ml_RL_65 : Cond.methodLink RL 65 yX10_speeches ∈ zW := zW_of 1405 (by decide +kernel) rfl
theorem ml_RL_69 : Cond.methodLink RL 69 yX10_waits ∈ zW := zW_of 1409 (by decide +kernel) rfl
theorem ml_RL_73 : Cond.methodLink RL 73 yX10_overturned ∈ zW := zW_of 1413 (by decide +kernel) rfl
theorem ml_RL_82 : Cond.methodLink RL 82 yX10_score ∈ zW := zW_of 1417 (by decide +kernel) rfl
theorem ml_RL_86 : Cond.methodLink RL 86 yX10_mean ∈ zW := zW_of 1421 (by decide +kernel) rfl
theorem ml_RX10_392 : Cond.methodLink RX10 392 yX10_counts ∈ zW := zW_of 1425 (by decide +kernel) rfl
theorem ml_RX10_395 : Cond.methodLink RX10 395 yX10_scaled ∈ zW := zW_of 1429 (by decide +kernel) rfl
theorem ml_RL_90 : Cond.methodLink RL 90 yX10_award ∈ zW := zW_of 1433 (by decide +kernel) rfl
theorem ml_RX10_398 : Cond.methodLink RX10 398 yX10_mean ∈ zW := zW_of 1437 (by decide +kernel) rfl
theorem ml_RL_94 : Cond.methodLink RL 94 yX10_told ∈ zW := zW_of 1438 (by decide +kernel) rfl
theorem cd_X0_init : Cond.code yX0_init cX0_init 3 none ∈ zW := zW_of 228 (by decide +kernel) rfl
theorem im_X0_init : Cond.instanceMethod yX0_init ∈ zW := zW_of 227 (by decide +kernel) rfl
theorem cd_X0_clear : Cond.code yX0_clear cX0_clear 2 none ∈ zW := zW_of 334 (by decide +kernel) rfl
theorem im_X0_clear : Cond.instanceMethod yX0_clear ∈ zW := zW_of 332 (by decide +kernel) rfl
theorem se_X0_clear : Cond.selects RX0 yX0_clear yX0_clear ∈ zW := zW_of 333 (by decide +kernel) rfl
theorem cd_X0_copyFrom : Cond.code yX0_copyFrom cX0_copyFrom 3 none ∈ zW := zW_of 917 (by decide +kernel) rfl
theorem im_X0_copyFrom : Cond.instanceMethod yX0_copyFrom ∈ zW := zW_of 915 (by decide +kernel) rfl
theorem se_X0_copyFrom : Cond.selects RX0 yX0_copyFrom yX0_copyFrom ∈ zW := zW_of 916 (by decide +kernel) rfl
theorem cd_X0_setFree : Cond.code yX0_setFree cX0_setFree 1 none ∈ zW := zW_of 338 (by decide +kernel) rfl
theorem im_X0_setFree : Cond.instanceMethod yX0_setFree ∈ zW := zW_of 336 (by decide +kernel) rfl
theorem se_X0_setFree : Cond.selects RX0 yX0_setFree yX0_setFree ∈ zW := zW_of 337 (by decide +kernel) rfl
theorem cd_X0_queuePlaceOf : Cond.code yX0_queuePlaceOf cX0_queuePlaceOf 3 (some .int) ∈ zW := zW_of 681 (by decide +kernel) rfl
theorem im_X0_queuePlaceOf : Cond.instanceMethod yX0_queuePlaceOf ∈ zW := zW_of 679 (by decide +kernel) rfl
theorem se_X0_queuePlaceOf : Cond.selects RX0 yX0_queuePlaceOf yX0_queuePlaceOf ∈ zW := zW_of 680 (by decide +kernel) rfl
theorem cd_X0_mayAsk : Cond.code yX0_mayAsk cX0_mayAsk 2 (some .boolean) ∈ zW := zW_of 677 (by decide +kernel) rfl
theorem im_X0_mayAsk : Cond.instanceMethod yX0_mayAsk ∈ zW := zW_of 675 (by decide +kernel) rfl
theorem se_X0_mayAsk : Cond.selects RX0 yX0_mayAsk yX0_mayAsk ∈ zW := zW_of 676 (by decide +kernel) rfl
theorem cd_X0_mayYieldTo : Cond.code yX0_mayYieldTo cX0_mayYieldTo 2 (some .boolean) ∈ zW := zW_of 685 (by decide +kernel) rfl
theorem im_X0_mayYieldTo : Cond.instanceMethod yX0_mayYieldTo ∈ zW := zW_of 683 (by decide +kernel) rfl
theorem se_X0_mayYieldTo : Cond.selects RX0 yX0_mayYieldTo yX0_mayYieldTo ∈ zW := zW_of 684 (by decide +kernel) rfl
theorem cd_X0_enqueue : Cond.code yX0_enqueue cX0_enqueue 2 none ∈ zW := zW_of 763 (by decide +kernel) rfl
theorem im_X0_enqueue : Cond.instanceMethod yX0_enqueue ∈ zW := zW_of 761 (by decide +kernel) rfl
theorem se_X0_enqueue : Cond.selects RX0 yX0_enqueue yX0_enqueue ∈ zW := zW_of 762 (by decide +kernel) rfl
theorem cd_X0_dequeue : Cond.code yX0_dequeue cX0_dequeue 3 none ∈ zW := zW_of 759 (by decide +kernel) rfl
theorem im_X0_dequeue : Cond.instanceMethod yX0_dequeue ∈ zW := zW_of 757 (by decide +kernel) rfl
theorem se_X0_dequeue : Cond.selects RX0 yX0_dequeue yX0_dequeue ∈ zW := zW_of 758 (by decide +kernel) rfl
theorem cd_X0_drop : Cond.code yX0_drop cX0_drop 2 none ∈ zW := zW_of 755 (by decide +kernel) rfl
theorem im_X0_drop : Cond.instanceMethod yX0_drop ∈ zW := zW_of 753 (by decide +kernel) rfl
theorem se_X0_drop : Cond.selects RX0 yX0_drop yX0_drop ∈ zW := zW_of 754 (by decide +kernel) rfl
theorem cd_X0_callNext : Cond.code yX0_callNext cX0_callNext 4 none ∈ zW := zW_of 767 (by decide +kernel) rfl
theorem im_X0_callNext : Cond.instanceMethod yX0_callNext ∈ zW := zW_of 765 (by decide +kernel) rfl
theorem se_X0_callNext : Cond.selects RX0 yX0_callNext yX0_callNext ∈ zW := zW_of 766 (by decide +kernel) rfl
theorem cd_X0_yieldTo : Cond.code yX0_yieldTo cX0_yieldTo 2 none ∈ zW := zW_of 796 (by decide +kernel) rfl
theorem im_X0_yieldTo : Cond.instanceMethod yX0_yieldTo ∈ zW := zW_of 794 (by decide +kernel) rfl
theorem se_X0_yieldTo : Cond.selects RX0 yX0_yieldTo yX0_yieldTo ∈ zW := zW_of 795 (by decide +kernel) rfl
theorem cd_X0_spend : Cond.code yX0_spend cX0_spend 2 none ∈ zW := zW_of 788 (by decide +kernel) rfl
theorem im_X0_spend : Cond.instanceMethod yX0_spend ∈ zW := zW_of 786 (by decide +kernel) rfl
theorem se_X0_spend : Cond.selects RX0 yX0_spend yX0_spend ∈ zW := zW_of 787 (by decide +kernel) rfl
theorem cd_X0_nextPlace : Cond.code yX0_nextPlace cX0_nextPlace 5 (some .int) ∈ zW := zW_of 771 (by decide +kernel) rfl
theorem im_X0_nextPlace : Cond.instanceMethod yX0_nextPlace ∈ zW := zW_of 770 (by decide +kernel) rfl
theorem se_X0_nextPlace : Cond.selects RX0 yX0_nextPlace yX0_nextPlace ∈ zW := zW_of 11 (by decide +kernel) rfl
theorem cd_X0_countedSpeeches : Cond.code yX0_countedSpeeches cX0_countedSpeeches 4 (some .int) ∈ zW := zW_of 775 (by decide +kernel) rfl
theorem im_X0_countedSpeeches : Cond.instanceMethod yX0_countedSpeeches ∈ zW := zW_of 774 (by decide +kernel) rfl
theorem se_X0_countedSpeeches : Cond.selects RX0 yX0_countedSpeeches yX0_countedSpeeches ∈ zW := zW_of 12 (by decide +kernel) rfl
theorem cd_X1_init : Cond.code yX1_init cX1_init 4 none ∈ zW := zW_of 402 (by decide +kernel) rfl
theorem im_X1_init : Cond.instanceMethod yX1_init ∈ zW := zW_of 401 (by decide +kernel) rfl
theorem cd_X1_take : Cond.code yX1_take cX1_take 5 (some .boolean) ∈ zW := zW_of 938 (by decide +kernel) rfl
theorem im_X1_take : Cond.instanceMethod yX1_take ∈ zW := zW_of 936 (by decide +kernel) rfl
theorem se_X1_take : Cond.selects RX1 yX1_take yX1_take ∈ zW := zW_of 937 (by decide +kernel) rfl
theorem cd_X1_meanOf : Cond.code yX1_meanOf cX1_meanOf 5 (some .int) ∈ zW := zW_of 948 (by decide +kernel) rfl
theorem im_X1_meanOf : Cond.instanceMethod yX1_meanOf ∈ zW := zW_of 946 (by decide +kernel) rfl
theorem se_X1_meanOf : Cond.selects RX1 yX1_meanOf yX1_meanOf ∈ zW := zW_of 947 (by decide +kernel) rfl
theorem cd_X1_memberAt : Cond.code yX1_memberAt cX1_memberAt 3 (some .int) ∈ zW := zW_of 968 (by decide +kernel) rfl
theorem im_X1_memberAt : Cond.instanceMethod yX1_memberAt ∈ zW := zW_of 966 (by decide +kernel) rfl
theorem se_X1_memberAt : Cond.selects RX1 yX1_memberAt yX1_memberAt ∈ zW := zW_of 967 (by decide +kernel) rfl
theorem cd_X1_countAheadOf : Cond.code yX1_countAheadOf cX1_countAheadOf 4 (some .int) ∈ zW := zW_of 973 (by decide +kernel) rfl
theorem im_X1_countAheadOf : Cond.instanceMethod yX1_countAheadOf ∈ zW := zW_of 972 (by decide +kernel) rfl
theorem se_X1_countAheadOf : Cond.selects RX1 yX1_countAheadOf yX1_countAheadOf ∈ zW := zW_of 23 (by decide +kernel) rfl
theorem cd_X1_counts : Cond.code yX1_counts cX1_counts 3 (some .boolean) ∈ zW := zW_of 952 (by decide +kernel) rfl
theorem im_X1_counts : Cond.instanceMethod yX1_counts ∈ zW := zW_of 951 (by decide +kernel) rfl
theorem se_X1_counts : Cond.selects RX1 yX1_counts yX1_counts ∈ zW := zW_of 21 (by decide +kernel) rfl
theorem cd_X1_scaled : Cond.code yX1_scaled cX1_scaled 6 (some .int) ∈ zW := zW_of 956 (by decide +kernel) rfl
theorem im_X1_scaled : Cond.instanceMethod yX1_scaled ∈ zW := zW_of 955 (by decide +kernel) rfl
theorem se_X1_scaled : Cond.selects RX1 yX1_scaled yX1_scaled ∈ zW := zW_of 22 (by decide +kernel) rfl
theorem cd_X2_init : Cond.code yX2_init cX2_init 1 none ∈ zW := zW_of 191 (by decide +kernel) rfl
theorem im_X2_init : Cond.instanceMethod yX2_init ∈ zW := zW_of 190 (by decide +kernel) rfl
theorem cd_X2_add : Cond.code yX2_add cX2_add 6 none ∈ zW := zW_of 638 (by decide +kernel) rfl
theorem im_X2_add : Cond.instanceMethod yX2_add ∈ zW := zW_of 636 (by decide +kernel) rfl
theorem se_X2_add : Cond.selects RX2 yX2_add yX2_add ∈ zW := zW_of 637 (by decide +kernel) rfl
theorem cd_X3_init : Cond.code yX3_init cX3_init 2 none ∈ zW := zW_of 265 (by decide +kernel) rfl
theorem im_X3_init : Cond.instanceMethod yX3_init ∈ zW := zW_of 264 (by decide +kernel) rfl
theorem cd_X3_top : Cond.code yX3_top cX3_top 1 (some .int) ∈ zW := zW_of 714 (by decide +kernel) rfl
theorem im_X3_top : Cond.instanceMethod yX3_top ∈ zW := zW_of 712 (by decide +kernel) rfl
theorem se_X3_top : Cond.selects RX3 yX3_top yX3_top ∈ zW := zW_of 713 (by decide +kernel) rfl
theorem cd_X3_isFull : Cond.code yX3_isFull cX3_isFull 1 (some .boolean) ∈ zW := zW_of 694 (by decide +kernel) rfl
theorem im_X3_isFull : Cond.instanceMethod yX3_isFull ∈ zW := zW_of 692 (by decide +kernel) rfl
theorem se_X3_isFull : Cond.selects RX3 yX3_isFull yX3_isFull ∈ zW := zW_of 693 (by decide +kernel) rfl
theorem cd_X3_has : Cond.code yX3_has cX3_has 3 (some .boolean) ∈ zW := zW_of 698 (by decide +kernel) rfl
theorem im_X3_has : Cond.instanceMethod yX3_has ∈ zW := zW_of 696 (by decide +kernel) rfl
theorem se_X3_has : Cond.selects RX3 yX3_has yX3_has ∈ zW := zW_of 697 (by decide +kernel) rfl
theorem cd_X3_isOutrankedBy : Cond.code yX3_isOutrankedBy cX3_isOutrankedBy 3 (some .boolean) ∈ zW := zW_of 710 (by decide +kernel) rfl
theorem im_X3_isOutrankedBy : Cond.instanceMethod yX3_isOutrankedBy ∈ zW := zW_of 708 (by decide +kernel) rfl
theorem se_X3_isOutrankedBy : Cond.selects RX3 yX3_isOutrankedBy yX3_isOutrankedBy ∈ zW := zW_of 709 (by decide +kernel) rfl
theorem cd_X3_maySecond : Cond.code yX3_maySecond cX3_maySecond 3 (some .boolean) ∈ zW := zW_of 738 (by decide +kernel) rfl
theorem im_X3_maySecond : Cond.instanceMethod yX3_maySecond ∈ zW := zW_of 736 (by decide +kernel) rfl
theorem se_X3_maySecond : Cond.selects RX3 yX3_maySecond yX3_maySecond ∈ zW := zW_of 737 (by decide +kernel) rfl
theorem cd_X3_mayDecide : Cond.code yX3_mayDecide cX3_mayDecide 3 (some .boolean) ∈ zW := zW_of 742 (by decide +kernel) rfl
theorem im_X3_mayDecide : Cond.instanceMethod yX3_mayDecide ∈ zW := zW_of 740 (by decide +kernel) rfl
theorem se_X3_mayDecide : Cond.selects RX3 yX3_mayDecide yX3_mayDecide ∈ zW := zW_of 741 (by decide +kernel) rfl
theorem cd_X3_push : Cond.code yX3_push cX3_push 6 none ∈ zW := zW_of 800 (by decide +kernel) rfl
theorem im_X3_push : Cond.instanceMethod yX3_push ∈ zW := zW_of 798 (by decide +kernel) rfl
theorem se_X3_push : Cond.selects RX3 yX3_push yX3_push ∈ zW := zW_of 799 (by decide +kernel) rfl
theorem cd_X3_secondTop : Cond.code yX3_secondTop cX3_secondTop 2 none ∈ zW := zW_of 805 (by decide +kernel) rfl
theorem im_X3_secondTop : Cond.instanceMethod yX3_secondTop ∈ zW := zW_of 803 (by decide +kernel) rfl
theorem se_X3_secondTop : Cond.selects RX3 yX3_secondTop yX3_secondTop ∈ zW := zW_of 804 (by decide +kernel) rfl
theorem cd_X3_debateTop : Cond.code yX3_debateTop cX3_debateTop 2 none ∈ zW := zW_of 780 (by decide +kernel) rfl
theorem im_X3_debateTop : Cond.instanceMethod yX3_debateTop ∈ zW := zW_of 778 (by decide +kernel) rfl
theorem se_X3_debateTop : Cond.selects RX3 yX3_debateTop yX3_debateTop ∈ zW := zW_of 779 (by decide +kernel) rfl
theorem cd_X3_endDebate : Cond.code yX3_endDebate cX3_endDebate 2 none ∈ zW := zW_of 856 (by decide +kernel) rfl
theorem im_X3_endDebate : Cond.instanceMethod yX3_endDebate ∈ zW := zW_of 854 (by decide +kernel) rfl
theorem se_X3_endDebate : Cond.selects RX3 yX3_endDebate yX3_endDebate ∈ zW := zW_of 855 (by decide +kernel) rfl
theorem cd_X3_tell : Cond.code yX3_tell cX3_tell 3 (some .int) ∈ zW := zW_of 888 (by decide +kernel) rfl
theorem im_X3_tell : Cond.instanceMethod yX3_tell ∈ zW := zW_of 886 (by decide +kernel) rfl
theorem se_X3_tell : Cond.selects RX3 yX3_tell yX3_tell ∈ zW := zW_of 887 (by decide +kernel) rfl
theorem cd_X4_init : Cond.code yX4_init cX4_init 1 none ∈ zW := zW_of 304 (by decide +kernel) rfl
theorem im_X4_init : Cond.instanceMethod yX4_init ∈ zW := zW_of 303 (by decide +kernel) rfl
theorem cd_X4_takeAway : Cond.code yX4_takeAway cX4_takeAway 1 none ∈ zW := zW_of 342 (by decide +kernel) rfl
theorem im_X4_takeAway : Cond.instanceMethod yX4_takeAway ∈ zW := zW_of 340 (by decide +kernel) rfl
theorem se_X4_takeAway : Cond.selects RX4 yX4_takeAway yX4_takeAway ∈ zW := zW_of 341 (by decide +kernel) rfl
theorem cd_X4_lay : Cond.code yX4_lay cX4_lay 4 none ∈ zW := zW_of 826 (by decide +kernel) rfl
theorem im_X4_lay : Cond.instanceMethod yX4_lay ∈ zW := zW_of 824 (by decide +kernel) rfl
theorem se_X4_lay : Cond.selects RX4 yX4_lay yX4_lay ∈ zW := zW_of 825 (by decide +kernel) rfl
theorem cd_X4_wasEver : Cond.code yX4_wasEver cX4_wasEver 2 (some .boolean) ∈ zW := zW_of 843 (by decide +kernel) rfl
theorem im_X4_wasEver : Cond.instanceMethod yX4_wasEver ∈ zW := zW_of 841 (by decide +kernel) rfl
theorem se_X4_wasEver : Cond.selects RX4 yX4_wasEver yX4_wasEver ∈ zW := zW_of 842 (by decide +kernel) rfl
theorem cd_X4_isThere : Cond.code yX4_isThere cX4_isThere 2 (some .boolean) ∈ zW := zW_of 730 (by decide +kernel) rfl
theorem im_X4_isThere : Cond.instanceMethod yX4_isThere ∈ zW := zW_of 728 (by decide +kernel) rfl
theorem se_X4_isThere : Cond.selects RX4 yX4_isThere yX4_isThere ∈ zW := zW_of 729 (by decide +kernel) rfl
theorem cd_X4_mayAmend : Cond.code yX4_mayAmend cX4_mayAmend 3 (some .boolean) ∈ zW := zW_of 726 (by decide +kernel) rfl
theorem im_X4_mayAmend : Cond.instanceMethod yX4_mayAmend ∈ zW := zW_of 724 (by decide +kernel) rfl
theorem se_X4_mayAmend : Cond.selects RX4 yX4_mayAmend yX4_mayAmend ∈ zW := zW_of 725 (by decide +kernel) rfl
theorem cd_X4_amend : Cond.code yX4_amend cX4_amend 6 none ∈ zW := zW_of 835 (by decide +kernel) rfl
theorem im_X4_amend : Cond.instanceMethod yX4_amend ∈ zW := zW_of 833 (by decide +kernel) rfl
theorem se_X4_amend : Cond.selects RX4 yX4_amend yX4_amend ∈ zW := zW_of 834 (by decide +kernel) rfl
theorem cd_X4_numberAt : Cond.code yX4_numberAt cX4_numberAt 4 (some .int) ∈ zW := zW_of 896 (by decide +kernel) rfl
theorem im_X4_numberAt : Cond.instanceMethod yX4_numberAt ∈ zW := zW_of 894 (by decide +kernel) rfl
theorem se_X4_numberAt : Cond.selects RX4 yX4_numberAt yX4_numberAt ∈ zW := zW_of 895 (by decide +kernel) rfl
theorem cd_X4_placeOf : Cond.code yX4_placeOf cX4_placeOf 4 (some .int) ∈ zW := zW_of 905 (by decide +kernel) rfl
theorem im_X4_placeOf : Cond.instanceMethod yX4_placeOf ∈ zW := zW_of 903 (by decide +kernel) rfl
theorem se_X4_placeOf : Cond.selects RX4 yX4_placeOf yX4_placeOf ∈ zW := zW_of 904 (by decide +kernel) rfl
theorem cd_X4_textOf : Cond.code yX4_textOf cX4_textOf 2 (some .int) ∈ zW := zW_of 851 (by decide +kernel) rfl
theorem im_X4_textOf : Cond.instanceMethod yX4_textOf ∈ zW := zW_of 849 (by decide +kernel) rfl
theorem se_X4_textOf : Cond.selects RX4 yX4_textOf yX4_textOf ∈ zW := zW_of 850 (by decide +kernel) rfl
theorem cd_X4_remove : Cond.code yX4_remove cX4_remove 2 none ∈ zW := zW_of 847 (by decide +kernel) rfl
theorem im_X4_remove : Cond.instanceMethod yX4_remove ∈ zW := zW_of 846 (by decide +kernel) rfl
theorem se_X4_remove : Cond.selects RX4 yX4_remove yX4_remove ∈ zW := zW_of 20 (by decide +kernel) rfl
theorem cd_X4_behind : Cond.code yX4_behind cX4_behind 4 (some .int) ∈ zW := zW_of 734 (by decide +kernel) rfl
theorem im_X4_behind : Cond.instanceMethod yX4_behind ∈ zW := zW_of 733 (by decide +kernel) rfl
theorem se_X4_behind : Cond.selects RX4 yX4_behind yX4_behind ∈ zW := zW_of 8 (by decide +kernel) rfl
theorem cd_X4_addBehind : Cond.code yX4_addBehind cX4_addBehind 6 none ∈ zW := zW_of 839 (by decide +kernel) rfl
theorem im_X4_addBehind : Cond.instanceMethod yX4_addBehind ∈ zW := zW_of 838 (by decide +kernel) rfl
theorem se_X4_addBehind : Cond.selects RX4 yX4_addBehind yX4_addBehind ∈ zW := zW_of 19 (by decide +kernel) rfl
theorem cd_X4_insert : Cond.code yX4_insert cX4_insert 4 none ∈ zW := zW_of 831 (by decide +kernel) rfl
theorem im_X4_insert : Cond.instanceMethod yX4_insert ∈ zW := zW_of 830 (by decide +kernel) rfl
theorem se_X4_insert : Cond.selects RX4 yX4_insert yX4_insert ∈ zW := zW_of 18 (by decide +kernel) rfl
theorem cd_X5_init : Cond.code yX5_init cX5_init 3 none ∈ zW := zW_of 169 (by decide +kernel) rfl
theorem im_X5_init : Cond.instanceMethod yX5_init ∈ zW := zW_of 168 (by decide +kernel) rfl
theorem cd_X5_readTape : Cond.code yX5_readTape cX5_readTape 2 (some .int) ∈ zW := zW_of 469 (by decide +kernel) rfl
theorem im_X5_readTape : Cond.instanceMethod yX5_readTape ∈ zW := zW_of 467 (by decide +kernel) rfl
theorem se_X5_readTape : Cond.selects RX5 yX5_readTape yX5_readTape ∈ zW := zW_of 468 (by decide +kernel) rfl
theorem cd_X5_readClause : Cond.code yX5_readClause cX5_readClause 2 none ∈ zW := zW_of 482 (by decide +kernel) rfl
theorem im_X5_readClause : Cond.instanceMethod yX5_readClause ∈ zW := zW_of 480 (by decide +kernel) rfl
theorem se_X5_readClause : Cond.selects RX5 yX5_readClause yX5_readClause ∈ zW := zW_of 481 (by decide +kernel) rfl
theorem cd_X5_readMotion : Cond.code yX5_readMotion cX5_readMotion 3 none ∈ zW := zW_of 542 (by decide +kernel) rfl
theorem im_X5_readMotion : Cond.instanceMethod yX5_readMotion ∈ zW := zW_of 540 (by decide +kernel) rfl
theorem se_X5_readMotion : Cond.selects RX5 yX5_readMotion yX5_readMotion ∈ zW := zW_of 541 (by decide +kernel) rfl
theorem cd_X5_readKind : Cond.code yX5_readKind cX5_readKind 2 (some .int) ∈ zW := zW_of 546 (by decide +kernel) rfl
theorem im_X5_readKind : Cond.instanceMethod yX5_readKind ∈ zW := zW_of 544 (by decide +kernel) rfl
theorem se_X5_readKind : Cond.selects RX5 yX5_readKind yX5_readKind ∈ zW := zW_of 545 (by decide +kernel) rfl
theorem cd_X5_readWay : Cond.code yX5_readWay cX5_readWay 2 (some .int) ∈ zW := zW_of 588 (by decide +kernel) rfl
theorem im_X5_readWay : Cond.instanceMethod yX5_readWay ∈ zW := zW_of 586 (by decide +kernel) rfl
theorem se_X5_readWay : Cond.selects RX5 yX5_readWay yX5_readWay ∈ zW := zW_of 587 (by decide +kernel) rfl
theorem cd_X5_readChoice : Cond.code yX5_readChoice cX5_readChoice 3 (some .boolean) ∈ zW := zW_of 608 (by decide +kernel) rfl
theorem im_X5_readChoice : Cond.instanceMethod yX5_readChoice ∈ zW := zW_of 606 (by decide +kernel) rfl
theorem se_X5_readChoice : Cond.selects RX5 yX5_readChoice yX5_readChoice ∈ zW := zW_of 607 (by decide +kernel) rfl
theorem cd_X5_readNumber : Cond.code yX5_readNumber cX5_readNumber 5 (some .int) ∈ zW := zW_of 578 (by decide +kernel) rfl
theorem im_X5_readNumber : Cond.instanceMethod yX5_readNumber ∈ zW := zW_of 576 (by decide +kernel) rfl
theorem se_X5_readNumber : Cond.selects RX5 yX5_readNumber yX5_readNumber ∈ zW := zW_of 577 (by decide +kernel) rfl
theorem cd_X5_tellOnce : Cond.code yX5_tellOnce cX5_tellOnce 3 none ∈ zW := zW_of 600 (by decide +kernel) rfl
theorem im_X5_tellOnce : Cond.instanceMethod yX5_tellOnce ∈ zW := zW_of 598 (by decide +kernel) rfl
theorem se_X5_tellOnce : Cond.selects RX5 yX5_tellOnce yX5_tellOnce ∈ zW := zW_of 599 (by decide +kernel) rfl
theorem cd_X5_expectWord : Cond.code yX5_expectWord cX5_expectWord 2 none ∈ zW := zW_of 574 (by decide +kernel) rfl
theorem im_X5_expectWord : Cond.instanceMethod yX5_expectWord ∈ zW := zW_of 572 (by decide +kernel) rfl
theorem se_X5_expectWord : Cond.selects RX5 yX5_expectWord yX5_expectWord ∈ zW := zW_of 573 (by decide +kernel) rfl
theorem cd_X5_expectSemicolon : Cond.code yX5_expectSemicolon cX5_expectSemicolon 1 none ∈ zW := zW_of 615 (by decide +kernel) rfl
theorem im_X5_expectSemicolon : Cond.instanceMethod yX5_expectSemicolon ∈ zW := zW_of 613 (by decide +kernel) rfl
theorem se_X5_expectSemicolon : Cond.selects RX5 yX5_expectSemicolon yX5_expectSemicolon ∈ zW := zW_of 614 (by decide +kernel) rfl
theorem cd_X5_tookWord : Cond.code yX5_tookWord cX5_tookWord 4 (some .boolean) ∈ zW := zW_of 487 (by decide +kernel) rfl
theorem im_X5_tookWord : Cond.instanceMethod yX5_tookWord ∈ zW := zW_of 485 (by decide +kernel) rfl
theorem se_X5_tookWord : Cond.selects RX5 yX5_tookWord yX5_tookWord ∈ zW := zW_of 486 (by decide +kernel) rfl
theorem cd_X5_skipBlanks : Cond.code yX5_skipBlanks cX5_skipBlanks 1 none ∈ zW := zW_of 474 (by decide +kernel) rfl
theorem im_X5_skipBlanks : Cond.instanceMethod yX5_skipBlanks ∈ zW := zW_of 472 (by decide +kernel) rfl
theorem se_X5_skipBlanks : Cond.selects RX5 yX5_skipBlanks yX5_skipBlanks ∈ zW := zW_of 473 (by decide +kernel) rfl
theorem cd_X5_fail : Cond.code yX5_fail cX5_fail 3 none ∈ zW := zW_of 564 (by decide +kernel) rfl
theorem im_X5_fail : Cond.instanceMethod yX5_fail ∈ zW := zW_of 562 (by decide +kernel) rfl
theorem se_X5_fail : Cond.selects RX5 yX5_fail yX5_fail ∈ zW := zW_of 563 (by decide +kernel) rfl
theorem cd_X5_isSmallLetter : Cond.code yX5_isSmallLetter cX5_isSmallLetter 1 (some .boolean) ∈ zW := zW_of 538 (by decide +kernel) rfl
theorem sm_X5_isSmallLetter : Cond.static yX5_isSmallLetter ∈ zW := zW_of 537 (by decide +kernel) rfl
theorem cd_X5_isDigit : Cond.code yX5_isDigit cX5_isDigit 1 (some .boolean) ∈ zW := zW_of 581 (by decide +kernel) rfl
theorem sm_X5_isDigit : Cond.static yX5_isDigit ∈ zW := zW_of 580 (by decide +kernel) rfl
theorem cd_X5_kindWord : Cond.code yX5_kindWord cX5_kindWord 1 (some (.object "java/lang/String")) ∈ zW := zW_of 549 (by decide +kernel) rfl
theorem sm_X5_kindWord : Cond.static yX5_kindWord ∈ zW := zW_of 548 (by decide +kernel) rfl
theorem cd_X5_wayWord : Cond.code yX5_wayWord cX5_wayWord 1 (some (.object "java/lang/String")) ∈ zW := zW_of 591 (by decide +kernel) rfl
theorem sm_X5_wayWord : Cond.static yX5_wayWord ∈ zW := zW_of 590 (by decide +kernel) rfl
theorem cd_X6_init : Cond.code yX6_init cX6_init 1 none ∈ zW := zW_of 110 (by decide +kernel) rfl
theorem im_X6_init : Cond.instanceMethod yX6_init ∈ zW := zW_of 109 (by decide +kernel) rfl
theorem cd_X6_clear : Cond.code yX6_clear cX6_clear 2 none ∈ zW := zW_of 115 (by decide +kernel) rfl
theorem im_X6_clear : Cond.instanceMethod yX6_clear ∈ zW := zW_of 113 (by decide +kernel) rfl
theorem se_X6_clear : Cond.selects RX6 yX6_clear yX6_clear ∈ zW := zW_of 114 (by decide +kernel) rfl
theorem cd_X6_copyFrom : Cond.code yX6_copyFrom cX6_copyFrom 3 none ∈ zW := zW_of 619 (by decide +kernel) rfl
theorem im_X6_copyFrom : Cond.instanceMethod yX6_copyFrom ∈ zW := zW_of 617 (by decide +kernel) rfl
theorem se_X6_copyFrom : Cond.selects RX6 yX6_copyFrom yX6_copyFrom ∈ zW := zW_of 618 (by decide +kernel) rfl
theorem cd_X6_lets : Cond.code yX6_lets cX6_lets 2 (some .boolean) ∈ zW := zW_of 568 (by decide +kernel) rfl
theorem im_X6_lets : Cond.instanceMethod yX6_lets ∈ zW := zW_of 566 (by decide +kernel) rfl
theorem se_X6_lets : Cond.selects RX6 yX6_lets yX6_lets ∈ zW := zW_of 567 (by decide +kernel) rfl
theorem cd_X6_rankOf : Cond.code yX6_rankOf cX6_rankOf 2 (some .int) ∈ zW := zW_of 718 (by decide +kernel) rfl
theorem im_X6_rankOf : Cond.instanceMethod yX6_rankOf ∈ zW := zW_of 716 (by decide +kernel) rfl
theorem se_X6_rankOf : Cond.selects RX6 yX6_rankOf yX6_rankOf ∈ zW := zW_of 717 (by decide +kernel) rfl
theorem cd_X7_init : Cond.code yX7_init cX7_init 4 none ∈ zW := zW_of 222 (by decide +kernel) rfl
theorem im_X7_init : Cond.instanceMethod yX7_init ∈ zW := zW_of 221 (by decide +kernel) rfl
theorem cd_X7_startAnew : Cond.code yX7_startAnew cX7_startAnew 1 none ∈ zW := zW_of 330 (by decide +kernel) rfl
theorem im_X7_startAnew : Cond.instanceMethod yX7_startAnew ∈ zW := zW_of 328 (by decide +kernel) rfl
theorem se_X7_startAnew : Cond.selects RX7 yX7_startAnew yX7_startAnew ∈ zW := zW_of 329 (by decide +kernel) rfl
theorem cd_X7_work : Cond.code yX7_work cX7_work 4 (some .boolean) ∈ zW := zW_of 645 (by decide +kernel) rfl
theorem im_X7_work : Cond.instanceMethod yX7_work ∈ zW := zW_of 643 (by decide +kernel) rfl
theorem se_X7_work : Cond.selects RX7 yX7_work yX7_work ∈ zW := zW_of 644 (by decide +kernel) rfl
theorem cd_X7_rulingOf : Cond.code yX7_rulingOf cX7_rulingOf 2 (some .int) ∈ zW := zW_of 860 (by decide +kernel) rfl
theorem im_X7_rulingOf : Cond.instanceMethod yX7_rulingOf ∈ zW := zW_of 858 (by decide +kernel) rfl
theorem se_X7_rulingOf : Cond.selects RX7 yX7_rulingOf yX7_rulingOf ∈ zW := zW_of 859 (by decide +kernel) rfl
theorem cd_X7_passedOf : Cond.code yX7_passedOf cX7_passedOf 2 (some .int) ∈ zW := zW_of 872 (by decide +kernel) rfl
theorem im_X7_passedOf : Cond.instanceMethod yX7_passedOf ∈ zW := zW_of 870 (by decide +kernel) rfl
theorem se_X7_passedOf : Cond.selects RX7 yX7_passedOf yX7_passedOf ∈ zW := zW_of 871 (by decide +kernel) rfl
theorem cd_X7_overturnedOf : Cond.code yX7_overturnedOf cX7_overturnedOf 2 (some .int) ∈ zW := zW_of 926 (by decide +kernel) rfl
theorem im_X7_overturnedOf : Cond.instanceMethod yX7_overturnedOf ∈ zW := zW_of 924 (by decide +kernel) rfl
theorem se_X7_overturnedOf : Cond.selects RX7 yX7_overturnedOf yX7_overturnedOf ∈ zW := zW_of 925 (by decide +kernel) rfl
theorem cd_X7_tell : Cond.code yX7_tell cX7_tell 2 (some .int) ∈ zW := zW_of 880 (by decide +kernel) rfl
theorem im_X7_tell : Cond.instanceMethod yX7_tell ∈ zW := zW_of 878 (by decide +kernel) rfl
theorem se_X7_tell : Cond.selects RX7 yX7_tell yX7_tell ∈ zW := zW_of 879 (by decide +kernel) rfl
theorem cd_X7_isWorked : Cond.code yX7_isWorked cX7_isWorked 2 (some .boolean) ∈ zW := zW_of 706 (by decide +kernel) rfl
theorem im_X7_isWorked : Cond.instanceMethod yX7_isWorked ∈ zW := zW_of 705 (by decide +kernel) rfl
theorem se_X7_isWorked : Cond.selects RX7 yX7_isWorked yX7_isWorked ∈ zW := zW_of 6 (by decide +kernel) rfl
theorem cd_X7_isThere : Cond.code yX7_isThere cX7_isThere 2 (some .boolean) ∈ zW := zW_of 663 (by decide +kernel) rfl
theorem im_X7_isThere : Cond.instanceMethod yX7_isThere ∈ zW := zW_of 662 (by decide +kernel) rfl
theorem se_X7_isThere : Cond.selects RX7 yX7_isThere yX7_isThere ∈ zW := zW_of 2 (by decide +kernel) rfl
theorem cd_X7_refusalAtLarge : Cond.code yX7_refusalAtLarge cX7_refusalAtLarge 3 (some .int) ∈ zW := zW_of 650 (by decide +kernel) rfl
theorem im_X7_refusalAtLarge : Cond.instanceMethod yX7_refusalAtLarge ∈ zW := zW_of 649 (by decide +kernel) rfl
theorem se_X7_refusalAtLarge : Cond.selects RX7 yX7_refusalAtLarge yX7_refusalAtLarge ∈ zW := zW_of 0 (by decide +kernel) rfl
theorem cd_X7_isOfMember : Cond.code yX7_isOfMember cX7_isOfMember 1 (some .boolean) ∈ zW := zW_of 659 (by decide +kernel) rfl
theorem sm_X7_isOfMember : Cond.static yX7_isOfMember ∈ zW := zW_of 658 (by decide +kernel) rfl
theorem cd_X7_numbersAreAsTold : Cond.code yX7_numbersAreAsTold cX7_numbersAreAsTold 4 (some .boolean) ∈ zW := zW_of 654 (by decide +kernel) rfl
theorem im_X7_numbersAreAsTold : Cond.instanceMethod yX7_numbersAreAsTold ∈ zW := zW_of 653 (by decide +kernel) rfl
theorem se_X7_numbersAreAsTold : Cond.selects RX7 yX7_numbersAreAsTold yX7_numbersAreAsTold ∈ zW := zW_of 1 (by decide +kernel) rfl
theorem cd_X7_isInOrder : Cond.code yX7_isInOrder cX7_isInOrder 3 (some .boolean) ∈ zW := zW_of 673 (by decide +kernel) rfl
theorem im_X7_isInOrder : Cond.instanceMethod yX7_isInOrder ∈ zW := zW_of 672 (by decide +kernel) rfl
theorem se_X7_isInOrder : Cond.selects RX7 yX7_isInOrder yX7_isInOrder ∈ zW := zW_of 3 (by decide +kernel) rfl
theorem cd_X7_mayMove : Cond.code yX7_mayMove cX7_mayMove 3 (some .boolean) ∈ zW := zW_of 689 (by decide +kernel) rfl
theorem im_X7_mayMove : Cond.instanceMethod yX7_mayMove ∈ zW := zW_of 688 (by decide +kernel) rfl
theorem se_X7_mayMove : Cond.selects RX7 yX7_mayMove yX7_mayMove ∈ zW := zW_of 4 (by decide +kernel) rfl
theorem cd_X7_mayMoveKind : Cond.code yX7_mayMoveKind cX7_mayMoveKind 3 (some .boolean) ∈ zW := zW_of 722 (by decide +kernel) rfl
theorem im_X7_mayMoveKind : Cond.instanceMethod yX7_mayMoveKind ∈ zW := zW_of 721 (by decide +kernel) rfl
theorem se_X7_mayMoveKind : Cond.selects RX7 yX7_mayMoveKind yX7_mayMoveKind ∈ zW := zW_of 7 (by decide +kernel) rfl
theorem cd_X7_mayAppeal : Cond.code yX7_mayAppeal cX7_mayAppeal 1 (some .boolean) ∈ zW := zW_of 702 (by decide +kernel) rfl
theorem im_X7_mayAppeal : Cond.instanceMethod yX7_mayAppeal ∈ zW := zW_of 701 (by decide +kernel) rfl
theorem se_X7_mayAppeal : Cond.selects RX7 yX7_mayAppeal yX7_mayAppeal ∈ zW := zW_of 5 (by decide +kernel) rfl
theorem cd_X7_hasOther : Cond.code yX7_hasOther cX7_hasOther 3 (some .boolean) ∈ zW := zW_of 747 (by decide +kernel) rfl
theorem im_X7_hasOther : Cond.instanceMethod yX7_hasOther ∈ zW := zW_of 746 (by decide +kernel) rfl
theorem se_X7_hasOther : Cond.selects RX7 yX7_hasOther yX7_hasOther ∈ zW := zW_of 9 (by decide +kernel) rfl
theorem cd_X7_perform : Cond.code yX7_perform cX7_perform 3 none ∈ zW := zW_of 751 (by decide +kernel) rfl
theorem im_X7_perform : Cond.instanceMethod yX7_perform ∈ zW := zW_of 750 (by decide +kernel) rfl
theorem se_X7_perform : Cond.selects RX7 yX7_perform yX7_perform ∈ zW := zW_of 10 (by decide +kernel) rfl
theorem cd_X7_letTicksGo : Cond.code yX7_letTicksGo cX7_letTicksGo 2 none ∈ zW := zW_of 784 (by decide +kernel) rfl
theorem im_X7_letTicksGo : Cond.instanceMethod yX7_letTicksGo ∈ zW := zW_of 783 (by decide +kernel) rfl
theorem se_X7_letTicksGo : Cond.selects RX7 yX7_letTicksGo yX7_letTicksGo ∈ zW := zW_of 13 (by decide +kernel) rfl
theorem cd_X7_decide : Cond.code yX7_decide cX7_decide 5 none ∈ zW := zW_of 809 (by decide +kernel) rfl
theorem im_X7_decide : Cond.instanceMethod yX7_decide ∈ zW := zW_of 808 (by decide +kernel) rfl
theorem se_X7_decide : Cond.selects RX7 yX7_decide yX7_decide ∈ zW := zW_of 14 (by decide +kernel) rfl
theorem cd_X7_isCarried : Cond.code yX7_isCarried cX7_isCarried 6 (some .boolean) ∈ zW := zW_of 814 (by decide +kernel) rfl
theorem im_X7_isCarried : Cond.instanceMethod yX7_isCarried ∈ zW := zW_of 813 (by decide +kernel) rfl
theorem se_X7_isCarried : Cond.selects RX7 yX7_isCarried yX7_isCarried ∈ zW := zW_of 15 (by decide +kernel) rfl
theorem cd_X7_settleAppeal : Cond.code yX7_settleAppeal cX7_settleAppeal 3 none ∈ zW := zW_of 818 (by decide +kernel) rfl
theorem im_X7_settleAppeal : Cond.instanceMethod yX7_settleAppeal ∈ zW := zW_of 817 (by decide +kernel) rfl
theorem se_X7_settleAppeal : Cond.selects RX7 yX7_settleAppeal yX7_settleAppeal ∈ zW := zW_of 16 (by decide +kernel) rfl
theorem cd_X7_carryOut : Cond.code yX7_carryOut cX7_carryOut 4 none ∈ zW := zW_of 822 (by decide +kernel) rfl
theorem im_X7_carryOut : Cond.instanceMethod yX7_carryOut ∈ zW := zW_of 821 (by decide +kernel) rfl
theorem se_X7_carryOut : Cond.selects RX7 yX7_carryOut yX7_carryOut ∈ zW := zW_of 17 (by decide +kernel) rfl
theorem cd_X8_init : Cond.code yX8_init cX8_init 1 none ∈ zW := zW_of 94 (by decide +kernel) rfl
theorem im_X8_init : Cond.instanceMethod yX8_init ∈ zW := zW_of 93 (by decide +kernel) rfl
theorem cd_X8_append : Cond.code yX8_append cX8_append 3 none ∈ zW := zW_of 457 (by decide +kernel) rfl
theorem im_X8_append : Cond.instanceMethod yX8_append ∈ zW := zW_of 455 (by decide +kernel) rfl
theorem se_X8_append : Cond.selects RX8 yX8_append yX8_append ∈ zW := zW_of 456 (by decide +kernel) rfl
theorem cd_X8_byteAt : Cond.code yX8_byteAt cX8_byteAt 2 (some .int) ∈ zW := zW_of 478 (by decide +kernel) rfl
theorem im_X8_byteAt : Cond.instanceMethod yX8_byteAt ∈ zW := zW_of 476 (by decide +kernel) rfl
theorem se_X8_byteAt : Cond.selects RX8 yX8_byteAt yX8_byteAt ∈ zW := zW_of 477 (by decide +kernel) rfl
theorem cd_X9_init : Cond.code yX9_init cX9_init 1 none ∈ zW := zW_of 86 (by decide +kernel) rfl
theorem im_X9_init : Cond.instanceMethod yX9_init ∈ zW := zW_of 85 (by decide +kernel) rfl
theorem cd_X9_feed : Cond.code yX9_feed cX9_feed 6 (some .int) ∈ zW := zW_of 453 (by decide +kernel) rfl
theorem im_X9_feed : Cond.instanceMethod yX9_feed ∈ zW := zW_of 451 (by decide +kernel) rfl
theorem se_X9_feed : Cond.selects RX9 yX9_feed yX9_feed ∈ zW := zW_of 452 (by decide +kernel) rfl
theorem cd_X9_end : Cond.code yX9_end cX9_end 2 (some .int) ∈ zW := zW_of 461 (by decide +kernel) rfl
theorem im_X9_end : Cond.instanceMethod yX9_end ∈ zW := zW_of 459 (by decide +kernel) rfl
theorem se_X9_end : Cond.selects RX9 yX9_end yX9_end ∈ zW := zW_of 460 (by decide +kernel) rfl
theorem cd_X9_rules : Cond.code yX9_rules cX9_rules 2 (some .int) ∈ zW := zW_of 465 (by decide +kernel) rfl
theorem im_X9_rules : Cond.instanceMethod yX9_rules ∈ zW := zW_of 463 (by decide +kernel) rfl
theorem se_X9_rules : Cond.selects RX9 yX9_rules yX9_rules ∈ zW := zW_of 464 (by decide +kernel) rfl
theorem cd_X9_school : Cond.code yX9_school cX9_school 3 (some .boolean) ∈ zW := zW_of 624 (by decide +kernel) rfl
theorem im_X9_school : Cond.instanceMethod yX9_school ∈ zW := zW_of 622 (by decide +kernel) rfl
theorem se_X9_school : Cond.selects RX9 yX9_school yX9_school ∈ zW := zW_of 623 (by decide +kernel) rfl
theorem cd_X9_act : Cond.code yX9_act cX9_act 7 (some .int) ∈ zW := zW_of 634 (by decide +kernel) rfl
theorem im_X9_act : Cond.instanceMethod yX9_act ∈ zW := zW_of 632 (by decide +kernel) rfl
theorem se_X9_act : Cond.selects RX9 yX9_act yX9_act ∈ zW := zW_of 633 (by decide +kernel) rfl
theorem cd_X9_ruling : Cond.code yX9_ruling cX9_ruling 2 (some .int) ∈ zW := zW_of 864 (by decide +kernel) rfl
theorem im_X9_ruling : Cond.instanceMethod yX9_ruling ∈ zW := zW_of 862 (by decide +kernel) rfl
theorem se_X9_ruling : Cond.selects RX9 yX9_ruling yX9_ruling ∈ zW := zW_of 863 (by decide +kernel) rfl
theorem cd_X9_passed : Cond.code yX9_passed cX9_passed 2 (some .int) ∈ zW := zW_of 868 (by decide +kernel) rfl
theorem im_X9_passed : Cond.instanceMethod yX9_passed ∈ zW := zW_of 866 (by decide +kernel) rfl
theorem se_X9_passed : Cond.selects RX9 yX9_passed yX9_passed ∈ zW := zW_of 867 (by decide +kernel) rfl
theorem cd_X9_state : Cond.code yX9_state cX9_state 2 (some .int) ∈ zW := zW_of 876 (by decide +kernel) rfl
theorem im_X9_state : Cond.instanceMethod yX9_state ∈ zW := zW_of 874 (by decide +kernel) rfl
theorem se_X9_state : Cond.selects RX9 yX9_state yX9_state ∈ zW := zW_of 875 (by decide +kernel) rfl
theorem cd_X9_pending : Cond.code yX9_pending cX9_pending 3 (some .int) ∈ zW := zW_of 884 (by decide +kernel) rfl
theorem im_X9_pending : Cond.instanceMethod yX9_pending ∈ zW := zW_of 882 (by decide +kernel) rfl
theorem se_X9_pending : Cond.selects RX9 yX9_pending yX9_pending ∈ zW := zW_of 883 (by decide +kernel) rfl
theorem cd_X9_clause : Cond.code yX9_clause cX9_clause 4 (some .int) ∈ zW := zW_of 892 (by decide +kernel) rfl
theorem im_X9_clause : Cond.instanceMethod yX9_clause ∈ zW := zW_of 890 (by decide +kernel) rfl
theorem se_X9_clause : Cond.selects RX9 yX9_clause yX9_clause ∈ zW := zW_of 891 (by decide +kernel) rfl
theorem cd_X9_place : Cond.code yX9_place cX9_place 2 (some .int) ∈ zW := zW_of 901 (by decide +kernel) rfl
theorem im_X9_place : Cond.instanceMethod yX9_place ∈ zW := zW_of 899 (by decide +kernel) rfl
theorem se_X9_place : Cond.selects RX9 yX9_place yX9_place ∈ zW := zW_of 900 (by decide +kernel) rfl
theorem cd_X9_speeches : Cond.code yX9_speeches cX9_speeches 2 (some .int) ∈ zW := zW_of 909 (by decide +kernel) rfl
theorem im_X9_speeches : Cond.instanceMethod yX9_speeches ∈ zW := zW_of 907 (by decide +kernel) rfl
theorem se_X9_speeches : Cond.selects RX9 yX9_speeches yX9_speeches ∈ zW := zW_of 908 (by decide +kernel) rfl
theorem cd_X9_waits : Cond.code yX9_waits cX9_waits 3 (some .int) ∈ zW := zW_of 913 (by decide +kernel) rfl
theorem im_X9_waits : Cond.instanceMethod yX9_waits ∈ zW := zW_of 911 (by decide +kernel) rfl
theorem se_X9_waits : Cond.selects RX9 yX9_waits yX9_waits ∈ zW := zW_of 912 (by decide +kernel) rfl
theorem cd_X9_overturned : Cond.code yX9_overturned cX9_overturned 2 (some .int) ∈ zW := zW_of 922 (by decide +kernel) rfl
theorem im_X9_overturned : Cond.instanceMethod yX9_overturned ∈ zW := zW_of 920 (by decide +kernel) rfl
theorem se_X9_overturned : Cond.selects RX9 yX9_overturned yX9_overturned ∈ zW := zW_of 921 (by decide +kernel) rfl
theorem cd_X9_beside : Cond.code yX9_beside cX9_beside 4 (some .int) ∈ zW := zW_of 930 (by decide +kernel) rfl
theorem im_X9_beside : Cond.instanceMethod yX9_beside ∈ zW := zW_of 928 (by decide +kernel) rfl
theorem se_X9_beside : Cond.selects RX9 yX9_beside yX9_beside ∈ zW := zW_of 929 (by decide +kernel) rfl
theorem cd_X9_score : Cond.code yX9_score cX9_score 5 (some .boolean) ∈ zW := zW_of 934 (by decide +kernel) rfl
theorem im_X9_score : Cond.instanceMethod yX9_score ∈ zW := zW_of 932 (by decide +kernel) rfl
theorem se_X9_score : Cond.selects RX9 yX9_score yX9_score ∈ zW := zW_of 933 (by decide +kernel) rfl
theorem cd_X9_mean : Cond.code yX9_mean cX9_mean 2 (some .int) ∈ zW := zW_of 944 (by decide +kernel) rfl
theorem im_X9_mean : Cond.instanceMethod yX9_mean ∈ zW := zW_of 942 (by decide +kernel) rfl
theorem se_X9_mean : Cond.selects RX9 yX9_mean yX9_mean ∈ zW := zW_of 943 (by decide +kernel) rfl
theorem cd_X9_award : Cond.code yX9_award cX9_award 2 (some .int) ∈ zW := zW_of 964 (by decide +kernel) rfl
theorem im_X9_award : Cond.instanceMethod yX9_award ∈ zW := zW_of 962 (by decide +kernel) rfl
theorem se_X9_award : Cond.selects RX9 yX9_award yX9_award ∈ zW := zW_of 963 (by decide +kernel) rfl
theorem cd_X9_told : Cond.code yX9_told cX9_told 2 (some .int) ∈ zW := zW_of 977 (by decide +kernel) rfl
theorem im_X9_told : Cond.instanceMethod yX9_told ∈ zW := zW_of 975 (by decide +kernel) rfl
theorem se_X9_told : Cond.selects RX9 yX9_told yX9_told ∈ zW := zW_of 976 (by decide +kernel) rfl
theorem cd_X9_isMember : Cond.code yX9_isMember cX9_isMember 1 (some .boolean) ∈ zW := zW_of 627 (by decide +kernel) rfl
theorem sm_X9_isMember : Cond.static yX9_isMember ∈ zW := zW_of 626 (by decide +kernel) rfl
theorem cd_X9_isSchool : Cond.code yX9_isSchool cX9_isSchool 1 (some .boolean) ∈ zW := zW_of 630 (by decide +kernel) rfl
theorem sm_X9_isSchool : Cond.static yX9_isSchool ∈ zW := zW_of 629 (by decide +kernel) rfl
theorem cd_X9_isKind : Cond.code yX9_isKind cX9_isKind 1 (some .boolean) ∈ zW := zW_of 560 (by decide +kernel) rfl
theorem sm_X9_isKind : Cond.static yX9_isKind ∈ zW := zW_of 559 (by decide +kernel) rfl
theorem cd_X9_isActNumber : Cond.code yX9_isActNumber cX9_isActNumber 1 (some .boolean) ∈ zW := zW_of 641 (by decide +kernel) rfl
theorem sm_X9_isActNumber : Cond.static yX9_isActNumber ∈ zW := zW_of 640 (by decide +kernel) rfl
theorem cd_X10_init : Cond.code yX10_init cX10_init 1 none ∈ zW := zW_of 982 (by decide +kernel) rfl
theorem im_X10_init : Cond.instanceMethod yX10_init ∈ zW := zW_of 981 (by decide +kernel) rfl
theorem cd_X10_in : Cond.code yX10_in cX10_in 3 (some .boolean) ∈ zW := zW_of 1245 (by decide +kernel) rfl
theorem sm_X10_in : Cond.static yX10_in ∈ zW := zW_of 1244 (by decide +kernel) rfl
theorem cd_X10_feed : Cond.code yX10_feed cX10_feed 6 (some .int) ∈ zW := zW_of 1177 (by decide +kernel) rfl
theorem im_X10_feed : Cond.instanceMethod yX10_feed ∈ zW := zW_of 1175 (by decide +kernel) rfl
theorem se_X10_feed : Cond.selects RX10 yX10_feed yX10_feed ∈ zW := zW_of 1176 (by decide +kernel) rfl
theorem cd_X10_put : Cond.code yX10_put cX10_put 3 none ∈ zW := zW_of 1181 (by decide +kernel) rfl
theorem im_X10_put : Cond.instanceMethod yX10_put ∈ zW := zW_of 1180 (by decide +kernel) rfl
theorem se_X10_put : Cond.selects RX10 yX10_put yX10_put ∈ zW := zW_of 25 (by decide +kernel) rfl
theorem cd_X10_end : Cond.code yX10_end cX10_end 2 (some .int) ∈ zW := zW_of 1185 (by decide +kernel) rfl
theorem im_X10_end : Cond.instanceMethod yX10_end ∈ zW := zW_of 1183 (by decide +kernel) rfl
theorem se_X10_end : Cond.selects RX10 yX10_end yX10_end ∈ zW := zW_of 1184 (by decide +kernel) rfl
theorem cd_X10_fails : Cond.code yX10_fails cX10_fails 3 none ∈ zW := zW_of 1209 (by decide +kernel) rfl
theorem im_X10_fails : Cond.instanceMethod yX10_fails ∈ zW := zW_of 1208 (by decide +kernel) rfl
theorem se_X10_fails : Cond.selects RX10 yX10_fails yX10_fails ∈ zW := zW_of 30 (by decide +kernel) rfl
theorem cd_X10_isEnd : Cond.code yX10_isEnd cX10_isEnd 1 (some .boolean) ∈ zW := zW_of 1193 (by decide +kernel) rfl
theorem im_X10_isEnd : Cond.instanceMethod yX10_isEnd ∈ zW := zW_of 1192 (by decide +kernel) rfl
theorem se_X10_isEnd : Cond.selects RX10 yX10_isEnd yX10_isEnd ∈ zW := zW_of 26 (by decide +kernel) rfl
theorem cd_X10_isLetter : Cond.code yX10_isLetter cX10_isLetter 1 (some .boolean) ∈ zW := zW_of 1205 (by decide +kernel) rfl
theorem im_X10_isLetter : Cond.instanceMethod yX10_isLetter ∈ zW := zW_of 1204 (by decide +kernel) rfl
theorem se_X10_isLetter : Cond.selects RX10 yX10_isLetter yX10_isLetter ∈ zW := zW_of 29 (by decide +kernel) rfl
theorem cd_X10_word : Cond.code yX10_word cX10_word 1 none ∈ zW := zW_of 1201 (by decide +kernel) rfl
theorem im_X10_word : Cond.instanceMethod yX10_word ∈ zW := zW_of 1200 (by decide +kernel) rfl
theorem se_X10_word : Cond.selects RX10 yX10_word yX10_word ∈ zW := zW_of 28 (by decide +kernel) rfl
theorem cd_X10_is : Cond.code yX10_is cX10_is 4 (some .boolean) ∈ zW := zW_of 1214 (by decide +kernel) rfl
theorem im_X10_is : Cond.instanceMethod yX10_is ∈ zW := zW_of 1213 (by decide +kernel) rfl
theorem se_X10_is : Cond.selects RX10 yX10_is yX10_is ∈ zW := zW_of 31 (by decide +kernel) rfl
theorem cd_X10_number : Cond.code yX10_number cX10_number 4 (some .int) ∈ zW := zW_of 1241 (by decide +kernel) rfl
theorem im_X10_number : Cond.instanceMethod yX10_number ∈ zW := zW_of 1240 (by decide +kernel) rfl
theorem se_X10_number : Cond.selects RX10 yX10_number yX10_number ∈ zW := zW_of 35 (by decide +kernel) rfl
theorem cd_X10_kindOf : Cond.code yX10_kindOf cX10_kindOf 2 (some (.object "java/lang/String")) ∈ zW := zW_of 1224 (by decide +kernel) rfl
theorem im_X10_kindOf : Cond.instanceMethod yX10_kindOf ∈ zW := zW_of 1223 (by decide +kernel) rfl
theorem se_X10_kindOf : Cond.selects RX10 yX10_kindOf yX10_kindOf ∈ zW := zW_of 33 (by decide +kernel) rfl
theorem cd_X10_wayOf : Cond.code yX10_wayOf cX10_wayOf 2 (some (.object "java/lang/String")) ∈ zW := zW_of 1252 (by decide +kernel) rfl
theorem im_X10_wayOf : Cond.instanceMethod yX10_wayOf ∈ zW := zW_of 1251 (by decide +kernel) rfl
theorem se_X10_wayOf : Cond.selects RX10 yX10_wayOf yX10_wayOf ∈ zW := zW_of 36 (by decide +kernel) rfl
theorem cd_X10_clauseOf : Cond.code yX10_clauseOf cX10_clauseOf 2 (some (.object "java/lang/String")) ∈ zW := zW_of 1260 (by decide +kernel) rfl
theorem im_X10_clauseOf : Cond.instanceMethod yX10_clauseOf ∈ zW := zW_of 1259 (by decide +kernel) rfl
theorem se_X10_clauseOf : Cond.selects RX10 yX10_clauseOf yX10_clauseOf ∈ zW := zW_of 37 (by decide +kernel) rfl
theorem cd_X10_one : Cond.code yX10_one cX10_one 3 (some .boolean) ∈ zW := zW_of 1237 (by decide +kernel) rfl
theorem im_X10_one : Cond.instanceMethod yX10_one ∈ zW := zW_of 1236 (by decide +kernel) rfl
theorem se_X10_one : Cond.selects RX10 yX10_one yX10_one ∈ zW := zW_of 34 (by decide +kernel) rfl
theorem cd_X10_motion : Cond.code yX10_motion cX10_motion 3 none ∈ zW := zW_of 1220 (by decide +kernel) rfl
theorem im_X10_motion : Cond.instanceMethod yX10_motion ∈ zW := zW_of 1219 (by decide +kernel) rfl
theorem se_X10_motion : Cond.selects RX10 yX10_motion yX10_motion ∈ zW := zW_of 32 (by decide +kernel) rfl
theorem cd_X10_clause : Cond.code yX10_clause cX10_clause 2 none ∈ zW := zW_of 1197 (by decide +kernel) rfl
theorem im_X10_clause : Cond.instanceMethod yX10_clause ∈ zW := zW_of 1196 (by decide +kernel) rfl
theorem se_X10_clause : Cond.selects RX10 yX10_clause yX10_clause ∈ zW := zW_of 27 (by decide +kernel) rfl
theorem cd_X10_rules : Cond.code yX10_rules cX10_rules 2 (some .int) ∈ zW := zW_of 1189 (by decide +kernel) rfl
theorem im_X10_rules : Cond.instanceMethod yX10_rules ∈ zW := zW_of 1187 (by decide +kernel) rfl
theorem se_X10_rules : Cond.selects RX10 yX10_rules yX10_rules ∈ zW := zW_of 1188 (by decide +kernel) rfl
theorem cd_X10_school : Cond.code yX10_school cX10_school 3 (some .boolean) ∈ zW := zW_of 1272 (by decide +kernel) rfl
theorem im_X10_school : Cond.instanceMethod yX10_school ∈ zW := zW_of 1270 (by decide +kernel) rfl
theorem se_X10_school : Cond.selects RX10 yX10_school yX10_school ∈ zW := zW_of 1271 (by decide +kernel) rfl
theorem cd_X10_begin : Cond.code yX10_begin cX10_begin 2 none ∈ zW := zW_of 990 (by decide +kernel) rfl
theorem im_X10_begin : Cond.instanceMethod yX10_begin ∈ zW := zW_of 989 (by decide +kernel) rfl
theorem se_X10_begin : Cond.selects RX10 yX10_begin yX10_begin ∈ zW := zW_of 24 (by decide +kernel) rfl
theorem cd_X10_there : Cond.code yX10_there cX10_there 3 (some .int) ∈ zW := zW_of 1292 (by decide +kernel) rfl
theorem im_X10_there : Cond.instanceMethod yX10_there ∈ zW := zW_of 1291 (by decide +kernel) rfl
theorem se_X10_there : Cond.selects RX10 yX10_there yX10_there ∈ zW := zW_of 41 (by decide +kernel) rfl
theorem cd_X10_waitsFor : Cond.code yX10_waitsFor cX10_waitsFor 3 (some .boolean) ∈ zW := zW_of 1300 (by decide +kernel) rfl
theorem im_X10_waitsFor : Cond.instanceMethod yX10_waitsFor ∈ zW := zW_of 1299 (by decide +kernel) rfl
theorem se_X10_waitsFor : Cond.selects RX10 yX10_waitsFor yX10_waitsFor ∈ zW := zW_of 43 (by decide +kernel) rfl
theorem cd_X10_leaves : Cond.code yX10_leaves cX10_leaves 4 none ∈ zW := zW_of 1324 (by decide +kernel) rfl
theorem im_X10_leaves : Cond.instanceMethod yX10_leaves ∈ zW := zW_of 1323 (by decide +kernel) rfl
theorem se_X10_leaves : Cond.selects RX10 yX10_leaves yX10_leaves ∈ zW := zW_of 49 (by decide +kernel) rfl
theorem cd_X10_free : Cond.code yX10_free cX10_free 1 none ∈ zW := zW_of 1328 (by decide +kernel) rfl
theorem im_X10_free : Cond.instanceMethod yX10_free ∈ zW := zW_of 1327 (by decide +kernel) rfl
theorem se_X10_free : Cond.selects RX10 yX10_free yX10_free ∈ zW := zW_of 50 (by decide +kernel) rfl
theorem cd_X10_spoke : Cond.code yX10_spoke cX10_spoke 5 (some .int) ∈ zW := zW_of 1336 (by decide +kernel) rfl
theorem im_X10_spoke : Cond.instanceMethod yX10_spoke ∈ zW := zW_of 1335 (by decide +kernel) rfl
theorem se_X10_spoke : Cond.selects RX10 yX10_spoke yX10_spoke ∈ zW := zW_of 52 (by decide +kernel) rfl
theorem cd_X10_next : Cond.code yX10_next cX10_next 6 (some .int) ∈ zW := zW_of 1332 (by decide +kernel) rfl
theorem im_X10_next : Cond.instanceMethod yX10_next ∈ zW := zW_of 1331 (by decide +kernel) rfl
theorem se_X10_next : Cond.selects RX10 yX10_next yX10_next ∈ zW := zW_of 51 (by decide +kernel) rfl
theorem cd_X10_rule : Cond.code yX10_rule cX10_rule 5 (some .int) ∈ zW := zW_of 1284 (by decide +kernel) rfl
theorem im_X10_rule : Cond.instanceMethod yX10_rule ∈ zW := zW_of 1283 (by decide +kernel) rfl
theorem se_X10_rule : Cond.selects RX10 yX10_rule yX10_rule ∈ zW := zW_of 39 (by decide +kernel) rfl
theorem cd_X10_isWrong : Cond.code yX10_isWrong cX10_isWrong 7 (some .boolean) ∈ zW := zW_of 1288 (by decide +kernel) rfl
theorem im_X10_isWrong : Cond.instanceMethod yX10_isWrong ∈ zW := zW_of 1287 (by decide +kernel) rfl
theorem se_X10_isWrong : Cond.selects RX10 yX10_isWrong yX10_isWrong ∈ zW := zW_of 40 (by decide +kernel) rfl
theorem cd_X10_isInOrder : Cond.code yX10_isInOrder cX10_isInOrder 5 (some .boolean) ∈ zW := zW_of 1296 (by decide +kernel) rfl
theorem im_X10_isInOrder : Cond.instanceMethod yX10_isInOrder ∈ zW := zW_of 1295 (by decide +kernel) rfl
theorem se_X10_isInOrder : Cond.selects RX10 yX10_isInOrder yX10_isInOrder ∈ zW := zW_of 42 (by decide +kernel) rfl
theorem cd_X10_refused : Cond.code yX10_refused cX10_refused 3 (some .int) ∈ zW := zW_of 1308 (by decide +kernel) rfl
theorem im_X10_refused : Cond.instanceMethod yX10_refused ∈ zW := zW_of 1307 (by decide +kernel) rfl
theorem se_X10_refused : Cond.selects RX10 yX10_refused yX10_refused ∈ zW := zW_of 45 (by decide +kernel) rfl
theorem cd_X10_mayMove : Cond.code yX10_mayMove cX10_mayMove 6 (some .boolean) ∈ zW := zW_of 1304 (by decide +kernel) rfl
theorem im_X10_mayMove : Cond.instanceMethod yX10_mayMove ∈ zW := zW_of 1303 (by decide +kernel) rfl
theorem se_X10_mayMove : Cond.selects RX10 yX10_mayMove yX10_mayMove ∈ zW := zW_of 44 (by decide +kernel) rfl
theorem cd_X10_placeOf : Cond.code yX10_placeOf cX10_placeOf 3 (some .int) ∈ zW := zW_of 1316 (by decide +kernel) rfl
theorem im_X10_placeOf : Cond.instanceMethod yX10_placeOf ∈ zW := zW_of 1315 (by decide +kernel) rfl
theorem se_X10_placeOf : Cond.selects RX10 yX10_placeOf yX10_placeOf ∈ zW := zW_of 47 (by decide +kernel) rfl
theorem cd_X10_mayAmend : Cond.code yX10_mayAmend cX10_mayAmend 3 (some .boolean) ∈ zW := zW_of 1312 (by decide +kernel) rfl
theorem im_X10_mayAmend : Cond.instanceMethod yX10_mayAmend ∈ zW := zW_of 1311 (by decide +kernel) rfl
theorem se_X10_mayAmend : Cond.selects RX10 yX10_mayAmend yX10_mayAmend ∈ zW := zW_of 46 (by decide +kernel) rfl
theorem cd_X10_does : Cond.code yX10_does cX10_does 4 none ∈ zW := zW_of 1320 (by decide +kernel) rfl
theorem im_X10_does : Cond.instanceMethod yX10_does ∈ zW := zW_of 1319 (by decide +kernel) rfl
theorem se_X10_does : Cond.selects RX10 yX10_does yX10_does ∈ zW := zW_of 48 (by decide +kernel) rfl
theorem cd_X10_moves : Cond.code yX10_moves cX10_moves 3 none ∈ zW := zW_of 1340 (by decide +kernel) rfl
theorem im_X10_moves : Cond.instanceMethod yX10_moves ∈ zW := zW_of 1339 (by decide +kernel) rfl
theorem se_X10_moves : Cond.selects RX10 yX10_moves yX10_moves ∈ zW := zW_of 53 (by decide +kernel) rfl
theorem cd_X10_many : Cond.code yX10_many cX10_many 3 (some .int) ∈ zW := zW_of 1347 (by decide +kernel) rfl
theorem sm_X10_many : Cond.static yX10_many ∈ zW := zW_of 1346 (by decide +kernel) rfl
theorem cd_X10_isPassing : Cond.code yX10_isPassing cX10_isPassing 6 (some .boolean) ∈ zW := zW_of 1344 (by decide +kernel) rfl
theorem im_X10_isPassing : Cond.instanceMethod yX10_isPassing ∈ zW := zW_of 1343 (by decide +kernel) rfl
theorem se_X10_isPassing : Cond.selects RX10 yX10_isPassing yX10_isPassing ∈ zW := zW_of 54 (by decide +kernel) rfl
theorem cd_X10_votes : Cond.code yX10_votes cX10_votes 5 none ∈ zW := zW_of 1351 (by decide +kernel) rfl
theorem im_X10_votes : Cond.instanceMethod yX10_votes ∈ zW := zW_of 1350 (by decide +kernel) rfl
theorem se_X10_votes : Cond.selects RX10 yX10_votes yX10_votes ∈ zW := zW_of 55 (by decide +kernel) rfl
theorem cd_X10_papers : Cond.code yX10_papers cX10_papers 4 none ∈ zW := zW_of 1355 (by decide +kernel) rfl
theorem im_X10_papers : Cond.instanceMethod yX10_papers ∈ zW := zW_of 1354 (by decide +kernel) rfl
theorem se_X10_papers : Cond.selects RX10 yX10_papers yX10_papers ∈ zW := zW_of 56 (by decide +kernel) rfl
theorem cd_X10_goes : Cond.code yX10_goes cX10_goes 4 none ∈ zW := zW_of 1371 (by decide +kernel) rfl
theorem im_X10_goes : Cond.instanceMethod yX10_goes ∈ zW := zW_of 1370 (by decide +kernel) rfl
theorem se_X10_goes : Cond.selects RX10 yX10_goes yX10_goes ∈ zW := zW_of 60 (by decide +kernel) rfl
theorem cd_X10_adds : Cond.code yX10_adds cX10_adds 4 none ∈ zW := zW_of 1367 (by decide +kernel) rfl
theorem im_X10_adds : Cond.instanceMethod yX10_adds ∈ zW := zW_of 1366 (by decide +kernel) rfl
theorem se_X10_adds : Cond.selects RX10 yX10_adds yX10_adds ∈ zW := zW_of 59 (by decide +kernel) rfl
theorem cd_X10_amends : Cond.code yX10_amends cX10_amends 5 none ∈ zW := zW_of 1359 (by decide +kernel) rfl
theorem im_X10_amends : Cond.instanceMethod yX10_amends ∈ zW := zW_of 1358 (by decide +kernel) rfl
theorem se_X10_amends : Cond.selects RX10 yX10_amends yX10_amends ∈ zW := zW_of 57 (by decide +kernel) rfl
theorem cd_X10_behindGone : Cond.code yX10_behindGone cX10_behindGone 4 (some .int) ∈ zW := zW_of 1363 (by decide +kernel) rfl
theorem im_X10_behindGone : Cond.instanceMethod yX10_behindGone ∈ zW := zW_of 1362 (by decide +kernel) rfl
theorem se_X10_behindGone : Cond.selects RX10 yX10_behindGone yX10_behindGone ∈ zW := zW_of 58 (by decide +kernel) rfl
theorem cd_X10_works : Cond.code yX10_works cX10_works 5 none ∈ zW := zW_of 1280 (by decide +kernel) rfl
theorem im_X10_works : Cond.instanceMethod yX10_works ∈ zW := zW_of 1279 (by decide +kernel) rfl
theorem se_X10_works : Cond.selects RX10 yX10_works yX10_works ∈ zW := zW_of 38 (by decide +kernel) rfl
theorem cd_X10_act : Cond.code yX10_act cX10_act 6 (some .int) ∈ zW := zW_of 1276 (by decide +kernel) rfl
theorem im_X10_act : Cond.instanceMethod yX10_act ∈ zW := zW_of 1274 (by decide +kernel) rfl
theorem se_X10_act : Cond.selects RX10 yX10_act yX10_act ∈ zW := zW_of 1275 (by decide +kernel) rfl
theorem cd_X10_again : Cond.code yX10_again cX10_again 4 none ∈ zW := zW_of 1379 (by decide +kernel) rfl
theorem im_X10_again : Cond.instanceMethod yX10_again ∈ zW := zW_of 1378 (by decide +kernel) rfl
theorem se_X10_again : Cond.selects RX10 yX10_again yX10_again ∈ zW := zW_of 61 (by decide +kernel) rfl
theorem cd_X10_beside : Cond.code yX10_beside cX10_beside 4 (some .int) ∈ zW := zW_of 1375 (by decide +kernel) rfl
theorem im_X10_beside : Cond.instanceMethod yX10_beside ∈ zW := zW_of 1373 (by decide +kernel) rfl
theorem se_X10_beside : Cond.selects RX10 yX10_beside yX10_beside ∈ zW := zW_of 1374 (by decide +kernel) rfl
theorem cd_X10_ruling : Cond.code yX10_ruling cX10_ruling 2 (some .int) ∈ zW := zW_of 1387 (by decide +kernel) rfl
theorem im_X10_ruling : Cond.instanceMethod yX10_ruling ∈ zW := zW_of 1385 (by decide +kernel) rfl
theorem se_X10_ruling : Cond.selects RX10 yX10_ruling yX10_ruling ∈ zW := zW_of 1386 (by decide +kernel) rfl
theorem cd_X10_passed : Cond.code yX10_passed cX10_passed 2 (some .int) ∈ zW := zW_of 1391 (by decide +kernel) rfl
theorem im_X10_passed : Cond.instanceMethod yX10_passed ∈ zW := zW_of 1389 (by decide +kernel) rfl
theorem se_X10_passed : Cond.selects RX10 yX10_passed yX10_passed ∈ zW := zW_of 1390 (by decide +kernel) rfl
theorem cd_X10_state : Cond.code yX10_state cX10_state 2 (some .int) ∈ zW := zW_of 1383 (by decide +kernel) rfl
theorem im_X10_state : Cond.instanceMethod yX10_state ∈ zW := zW_of 1381 (by decide +kernel) rfl
theorem se_X10_state : Cond.selects RX10 yX10_state yX10_state ∈ zW := zW_of 1382 (by decide +kernel) rfl
theorem cd_X10_pending : Cond.code yX10_pending cX10_pending 3 (some .int) ∈ zW := zW_of 1396 (by decide +kernel) rfl
theorem im_X10_pending : Cond.instanceMethod yX10_pending ∈ zW := zW_of 1394 (by decide +kernel) rfl
theorem se_X10_pending : Cond.selects RX10 yX10_pending yX10_pending ∈ zW := zW_of 1395 (by decide +kernel) rfl
theorem cd_X10_clause_ : Cond.code yX10_clause_ cX10_clause_ 3 (some .int) ∈ zW := zW_of 1400 (by decide +kernel) rfl
theorem im_X10_clause_ : Cond.instanceMethod yX10_clause_ ∈ zW := zW_of 1398 (by decide +kernel) rfl
theorem se_X10_clause_ : Cond.selects RX10 yX10_clause_ yX10_clause_ ∈ zW := zW_of 1399 (by decide +kernel) rfl
theorem cd_X10_place : Cond.code yX10_place cX10_place 2 (some .int) ∈ zW := zW_of 1404 (by decide +kernel) rfl
theorem im_X10_place : Cond.instanceMethod yX10_place ∈ zW := zW_of 1402 (by decide +kernel) rfl
theorem se_X10_place : Cond.selects RX10 yX10_place yX10_place ∈ zW := zW_of 1403 (by decide +kernel) rfl
theorem cd_X10_speeches : Cond.code yX10_speeches cX10_speeches 2 (some .int) ∈ zW := zW_of 1408 (by decide +kernel) rfl
theorem im_X10_speeches : Cond.instanceMethod yX10_speeches ∈ zW := zW_of 1406 (by decide +kernel) rfl
theorem se_X10_speeches : Cond.selects RX10 yX10_speeches yX10_speeches ∈ zW := zW_of 1407 (by decide +kernel) rfl
theorem cd_X10_waits : Cond.code yX10_waits cX10_waits 7 (some .int) ∈ zW := zW_of 1412 (by decide +kernel) rfl
theorem im_X10_waits : Cond.instanceMethod yX10_waits ∈ zW := zW_of 1410 (by decide +kernel) rfl
theorem se_X10_waits : Cond.selects RX10 yX10_waits yX10_waits ∈ zW := zW_of 1411 (by decide +kernel) rfl
theorem cd_X10_overturned : Cond.code yX10_overturned cX10_overturned 2 (some .int) ∈ zW := zW_of 1416 (by decide +kernel) rfl
theorem im_X10_overturned : Cond.instanceMethod yX10_overturned ∈ zW := zW_of 1414 (by decide +kernel) rfl
theorem se_X10_overturned : Cond.selects RX10 yX10_overturned yX10_overturned ∈ zW := zW_of 1415 (by decide +kernel) rfl
theorem cd_X10_score : Cond.code yX10_score cX10_score 5 (some .boolean) ∈ zW := zW_of 1420 (by decide +kernel) rfl
theorem im_X10_score : Cond.instanceMethod yX10_score ∈ zW := zW_of 1418 (by decide +kernel) rfl
theorem se_X10_score : Cond.selects RX10 yX10_score yX10_score ∈ zW := zW_of 1419 (by decide +kernel) rfl
theorem cd_X10_counts : Cond.code yX10_counts cX10_counts 3 (some .boolean) ∈ zW := zW_of 1428 (by decide +kernel) rfl
theorem im_X10_counts : Cond.instanceMethod yX10_counts ∈ zW := zW_of 1427 (by decide +kernel) rfl
theorem se_X10_counts : Cond.selects RX10 yX10_counts yX10_counts ∈ zW := zW_of 62 (by decide +kernel) rfl
theorem cd_X10_scaled : Cond.code yX10_scaled cX10_scaled 6 (some .int) ∈ zW := zW_of 1432 (by decide +kernel) rfl
theorem im_X10_scaled : Cond.instanceMethod yX10_scaled ∈ zW := zW_of 1431 (by decide +kernel) rfl
theorem se_X10_scaled : Cond.selects RX10 yX10_scaled yX10_scaled ∈ zW := zW_of 63 (by decide +kernel) rfl
theorem cd_X10_mean : Cond.code yX10_mean cX10_mean 5 (some .int) ∈ zW := zW_of 1424 (by decide +kernel) rfl
theorem im_X10_mean : Cond.instanceMethod yX10_mean ∈ zW := zW_of 1422 (by decide +kernel) rfl
theorem se_X10_mean : Cond.selects RX10 yX10_mean yX10_mean ∈ zW := zW_of 1423 (by decide +kernel) rfl
theorem cd_X10_award : Cond.code yX10_award cX10_award 5 (some .int) ∈ zW := zW_of 1436 (by decide +kernel) rfl
theorem im_X10_award : Cond.instanceMethod yX10_award ∈ zW := zW_of 1434 (by decide +kernel) rfl
theorem se_X10_award : Cond.selects RX10 yX10_award yX10_award ∈ zW := zW_of 1435 (by decide +kernel) rfl
theorem cd_X10_told : Cond.code yX10_told cX10_told 2 (some .int) ∈ zW := zW_of 1441 (by decide +kernel) rfl
theorem im_X10_told : Cond.instanceMethod yX10_told ∈ zW := zW_of 1439 (by decide +kernel) rfl
theorem se_X10_told : Cond.selects RX10 yX10_told yX10_told ∈ zW := zW_of 1440 (by decide +kernel) rfl
theorem cd_J6_bitCount_0f7a4 : Cond.code yJ6_bitCount_0f7a4 cJ6_bitCount_0f7a4 1 (some .int) ∈ zW := zW_of 666 (by decide +kernel) rfl
theorem sm_J6_bitCount_0f7a4 : Cond.static yJ6_bitCount_0f7a4 ∈ zW := zW_of 665 (by decide +kernel) rfl
theorem cd_J9_max_7cf53 : Cond.code yJ9_max_7cf53 cJ9_max_7cf53 2 (some .int) ∈ zW := zW_of 791 (by decide +kernel) rfl
theorem sm_J9_max_7cf53 : Cond.static yJ9_max_7cf53 ∈ zW := zW_of 790 (by decide +kernel) rfl
theorem cd_J9_min_7cf53 : Cond.code yJ9_min_7cf53 cJ9_min_7cf53 2 (some .int) ∈ zW := zW_of 959 (by decide +kernel) rfl
theorem sm_J9_min_7cf53 : Cond.static yJ9_min_7cf53 ∈ zW := zW_of 958 (by decide +kernel) rfl
theorem cd_J0_length_8abf5 : Cond.code yJ0_length_8abf5 cJ0_length_8abf5 1 (some .int) ∈ zW := zW_of 491 (by decide +kernel) rfl
theorem im_J0_length_8abf5 : Cond.instanceMethod yJ0_length_8abf5 ∈ zW := zW_of 489 (by decide +kernel) rfl
theorem se_J0_length_8abf5 : Cond.selects RJ0 yJ0_length_8abf5 yJ0_length_8abf5 ∈ zW := zW_of 490 (by decide +kernel) rfl
theorem cd_J0_charAt_5068e : Cond.code yJ0_charAt_5068e cJ0_charAt_5068e 2 (some .char) ∈ zW := zW_of 501 (by decide +kernel) rfl
theorem im_J0_charAt_5068e : Cond.instanceMethod yJ0_charAt_5068e ∈ zW := zW_of 499 (by decide +kernel) rfl
theorem se_J0_charAt_5068e : Cond.selects RJ0 yJ0_charAt_5068e yJ0_charAt_5068e ∈ zW := zW_of 500 (by decide +kernel) rfl
theorem cd_J0_coder_7d493 : Cond.code yJ0_coder_7d493 cJ0_coder_7d493 1 (some .byte) ∈ zW := zW_of 495 (by decide +kernel) rfl
theorem im_J0_coder_7d493 : Cond.instanceMethod yJ0_coder_7d493 ∈ zW := zW_of 493 (by decide +kernel) rfl
theorem se_J0_coder_7d493 : Cond.selects RJ0 yJ0_coder_7d493 yJ0_coder_7d493 ∈ zW := zW_of 494 (by decide +kernel) rfl
theorem cd_J0_isLatin1_aae02 : Cond.code yJ0_isLatin1_aae02 cJ0_isLatin1_aae02 1 (some .boolean) ∈ zW := zW_of 505 (by decide +kernel) rfl
theorem im_J0_isLatin1_aae02 : Cond.instanceMethod yJ0_isLatin1_aae02 ∈ zW := zW_of 503 (by decide +kernel) rfl
theorem se_J0_isLatin1_aae02 : Cond.selects RJ0 yJ0_isLatin1_aae02 yJ0_isLatin1_aae02 ∈ zW := zW_of 504 (by decide +kernel) rfl
theorem cd_J0_checkIndex_df160 : Cond.code yJ0_checkIndex_df160 cJ0_checkIndex_df160 2 none ∈ zW := zW_of 511 (by decide +kernel) rfl
theorem sm_J0_checkIndex_df160 : Cond.static yJ0_checkIndex_df160 ∈ zW := zW_of 510 (by decide +kernel) rfl
theorem cd_J1_charAt_3b067 : Cond.code yJ1_charAt_3b067 cJ1_charAt_3b067 2 (some .char) ∈ zW := zW_of 508 (by decide +kernel) rfl
theorem sm_J1_charAt_3b067 : Cond.static yJ1_charAt_3b067 ∈ zW := zW_of 507 (by decide +kernel) rfl
theorem cd_J2_getChar_3b067 : Cond.code yJ2_getChar_3b067 cJ2_getChar_3b067 2 (some .char) ∈ zW := zW_of 529 (by decide +kernel) rfl
theorem sm_J2_getChar_3b067 : Cond.static yJ2_getChar_3b067 ∈ zW := zW_of 528 (by decide +kernel) rfl
theorem cd_J2_length_9d52b : Cond.code yJ2_length_9d52b cJ2_length_9d52b 1 (some .int) ∈ zW := zW_of 525 (by decide +kernel) rfl
theorem sm_J2_length_9d52b : Cond.static yJ2_length_9d52b ∈ zW := zW_of 524 (by decide +kernel) rfl
theorem cd_J2_charAt_3b067 : Cond.code yJ2_charAt_3b067 cJ2_charAt_3b067 2 (some .char) ∈ zW := zW_of 519 (by decide +kernel) rfl
theorem sm_J2_charAt_3b067 : Cond.static yJ2_charAt_3b067 ∈ zW := zW_of 518 (by decide +kernel) rfl
theorem cd_J2_checkIndex_2214a : Cond.code yJ2_checkIndex_2214a cJ2_checkIndex_2214a 2 none ∈ zW := zW_of 522 (by decide +kernel) rfl
theorem sm_J2_checkIndex_2214a : Cond.static yJ2_checkIndex_2214a ∈ zW := zW_of 521 (by decide +kernel) rfl
theorem cd_J3_checkIndex_8e157 : Cond.code yJ3_checkIndex_8e157 cJ3_checkIndex_8e157 3 (some .int) ∈ zW := zW_of 516 (by decide +kernel) rfl
theorem sm_J3_checkIndex_8e157 : Cond.static yJ3_checkIndex_8e157 ∈ zW := zW_of 515 (by decide +kernel) rfl
end
section
/-! ===== the memory of the system: cells by number, ints by place; trees: what a method answers and leaves ===== -/
abbrev zMem : Type := Nat → Nat → Int32
abbrev zTr : Type := Option (Int32 × zMem)
def zUp (M : zMem) (c i : Nat) (v : Int32) : zMem := fun a b => if a = c ∧ b = i then v else M a b
def zLt (x : zMem) (f : zMem → zTr) : zTr := f x
def zCk (c : Prop) [Decidable c] (t : zTr) : zTr := if c then t else none
def zBd (t : zTr) (f : Int32 → zMem → zTr) : zTr := match t with
  | none => none
  | some q => f q.1 q.2
abbrev zIn (i : Int32) (n : Nat) : Prop := 0 ≤ i.toInt ∧ i.toInt < (n : Int)
abbrev zIx (i : Int32) : Nat := i.toNatClampNeg
/-- a switch: the first case that fits -/
def zSw (x : Int32) (d : zTr) : List (Int32 × zTr) → zTr
  | [] => d
  | q :: l => if x = q.1 then q.2 else zSw x d l
theorem zUp_row (M : zMem) (c i : Nat) (v : Int32) : zUp M c i v c = upd (M c) i v := by
  funext b
  by_cases h : b = i
  · subst h
    simp [zUp, upd]
  · simp [zUp, upd, h]
theorem zUp_off {M : zMem} {c i : Nat} {v : Int32} {a : Nat} (h : a ≠ c) : zUp M c i v a = M a := by
  funext b
  simp [zUp, h]
/-- what is fixed of a world: classes and slots; array classes; the cells' addresses; the text constants' addresses, and their bytes' -/
abbrev zWD : Type := va_G × (Nat → ClassId) × (Nat → Nat) × (Nat → Nat) × (Nat → Nat)
abbrev zG (w : zWD) : va_G := w.1
abbrev zC (w : zWD) : Nat → ClassId := w.2.1
abbrev zA (w : zWD) : Nat → Nat := w.2.2.1
abbrev zK (w : zWD) : Nat → Nat := w.2.2.2.1
abbrev zV (w : zWD) : Nat → Nat := w.2.2.2.2
def zFree (w : zWD) : Nat → Prop := fun q => ∃ c, c < zNC ∧ q = zA w c
def zFv (w : zWD) (M : zMem) (k c i : Nat) : Value := if zFr k i = true then .ref (zA w (zRf c i)) else .int (M c i)
def zEn (w : zWD) (M : zMem) (c : Nat) : va_E :=
  if (zKd c).1 < 11 then .inr ((zKd c).1, (List.range (zKd c).2).map (fun i => zFv w M (zKd c).1 c i))
  else if (zKd c).1 < 14 then .inl (zC w (zKd c).1, (zKd c).2, .inl (M c))
  else .inl (zC w (zAk (zKd c).1), (zKd c).2, .inr (.inr (.inr (.inr (fun i => some (zA w (zRf c i)))))))
def zWl (w : zWD) (M : zMem) : va_W := (List.range zNC).map (fun c => (zA w c, zEn w M c))
theorem zWl_get (w : zWD) (M : zMem) {c : Nat} (h : c < zNC) : (zWl w M)[c]? = some (zA w c, zEn w M c) := by
  simp [zWl, h]
theorem zWl_set (w : zWD) (M M' : zMem) {c : Nat} (h : c < zNC) {x : va_E} (hx : zEn w M' c = x) (ho : ∀ b, b ≠ c → M' b = M b) : (zWl w M).set c (zA w c, x) = zWl w M' := by
  apply List.ext_getElem?
  intro k
  by_cases hk : k = c
  · subst hk
    rw [List.getElem?_set_self (by simp [zWl, h]), zWl_get w M' h, hx]
  · rw [List.getElem?_set_ne (Ne.symm hk)]
    by_cases hn : k < zNC
    · rw [zWl_get w M hn, zWl_get w M' hn]
      have : zEn w M' k = zEn w M k := by simp only [zEn, zFv, ho k hk]
      rw [this]
    · simp [zWl, hn]
def zRep (w : zWD) (M : zMem) (H : Heap) : Prop := va_P (zG w) vwCl (zWl w M) H
abbrev zTys (w : zWD) : List (ClassId × FieldType) := [(zC w 11, .byte), (zC w 12, .int), (zC w 13, .boolean), (zC w 14, .array .int), (zC w 15, .array .boolean)]
/-- the text constants -/
def zSx (w : zWD) (U : State) (H : Heap) : Prop := ∀ i : Nat, i < zNS → va_O "java/lang/String" (zK w i) (zFree w) U H ∧ va_OF "java/lang/String" "coder" "B" (.int 0) (zK w i) (zFree w) U H ∧ va_OF "java/lang/String" "value" "[B" (.ref (zV w i)) (zK w i) (zFree w) U H ∧ va_T .byte (zV w i) (zSl.getD i 0) (fun j => .int ((zSb.getD i []).getD j 0)) (zFree w) U H
theorem zSx.moved {w : zWD} {u U : State} {H : Heap} (hvm : u.vm.Alike U.vm) (h : zSx w u H) : zSx w U H := fun i hi => ⟨va_O.moved hvm (h i hi).1, va_OF.moved hvm (h i hi).2.1, va_OF.moved hvm (h i hi).2.2.1, va_T.moved hvm (h i hi).2.2.2⟩
theorem zSx.kept {w : zWD} {U : State} {H H1 : Heap} (h : zSx w U H) (hq : ∀ a : Nat, a < H.size → ¬ zFree w a → H1[a]? = H[a]?) : zSx w U H1 := fun i hi => ⟨(h i hi).1.kept hq, (h i hi).2.1.kept hq, (h i hi).2.2.1.kept hq, (h i hi).2.2.2.kept hq⟩
def zKK (w : zWD) (U : State) (H : Heap) : Prop :=
  va_K (zG w) vwCl (zTys w) U ∧ (∀ c c', c < zNC → c' < zNC → zA w c = zA w c' → c = c') ∧
  zSx w U H ∧ va_Z "java/lang/String" "COMPACT_STRINGS" "Z" (.int 1) (zFree w) U H ∧ (∀ q ∈ zSt, vk_R q.1 q.2.1 q.2.2.1 (zK w q.2.2.2) U) ∧ ∀ q ∈ zNw, va_Nw (.methodLinkNest q.1 q.2.1 q.2.2.1 q.2.2.2) U
theorem zKK.D {w : zWD} {U : State} {H : Heap} (h : zKK w U H) (M : zMem) : va_D (zFree w) (zWl w M) := by
  have key : ∀ (k : Nat) (q : Nat × va_E), (zWl w M)[k]? = some q → k < zNC ∧ q.1 = zA w k := by
    intro k q hk
    by_cases hn : k < zNC
    · rw [zWl_get w M hn] at hk
      cases hk
      exact ⟨hn, rfl⟩
    · simp [zWl, hn] at hk
  refine ⟨fun i j a b hi hj hab => ?_, fun k q hk => ?_⟩
  · obtain ⟨h1, h2⟩ := key i a hi
    obtain ⟨h3, h4⟩ := key j b hj
    exact h.2.1 i j h1 h3 (by rw [← h2, ← h4]; exact hab)
  · obtain ⟨h1, h2⟩ := key k q hk
    exact ⟨k, h1, h2⟩
theorem zKK.same {w : zWD} {u U : State} (hv : U.vm = u.vm) (hh : U.heap = u.heap) (h : zKK w u u.heap) : zKK w U U.heap := by
  obtain ⟨h1, h2, h3, h4, h5, h6⟩ := h
  have hal : u.vm.Alike U.vm := by rw [hv]; exact Vm.Alike.refl _
  rw [hh]
  exact ⟨va_K.moved hal h1, h2, h3.moved hal, h4.moved hal, fun q hq => (h5 q hq).same hv, fun q hq => va_Nw.same rfl hv.symm (h6 q hq)⟩
theorem zKK.go {w : zWD} {s U : State} {H : Heap} {locs : List Loc} (hW : s.WarmedH U.vm) (hS : va_S (zFree w) s.heap H locs) (hU : U.heap = H) (h : zKK w s s.heap) : zKK w U U.heap := by
  obtain ⟨h1, h2, h3, h4, h5, h6⟩ := h
  rw [hU]
  have hal := hW.alike
  exact ⟨va_K.moved hal h1, h2, (h3.moved hal).kept (fun a q1 q2 => hS.2.1 a q1 q2), (h4.moved hal).kept (fun a q1 q2 => hS.2.1 a q1 q2), fun q hq => (h5 q hq).warm hW, fun q hq => va_Nw.warmM hW (h6 q hq)⟩
/-- the answer as a value: 0 nothing, 1 an int, 2 a boolean, 3 a text constant's number -/
def zRv (w : zWD) (k : Nat) (r : Int32) : Option Value := match k with
  | 0 => none
  | 1 => some (.int r)
  | 2 => some (.int r)
  | _ => some (.ref (zK w (zIx r)))
def zOk (k : Nat) (r : Int32) : Prop := match k with
  | 2 => r = 0 ∨ r = 1
  | 3 => zIx r < zNS
  | _ => True
def zPc (w : zWD) (av : List Value) (M : zMem) : Array Value → State → Prop := fun v U => v = av.toArray ∧ zRep w M U.heap ∧ zKK w U U.heap
def zQc (w : zWD) (k : Nat) (r : Int32) (M' : zMem) : Array Value → State → Outcome → State → Prop := fun _ st oc t => oc = .returned (zRv w k r) ∧ zOk k r ∧ zRep w M' t.heap ∧ va_F (zFree w) st t
/-- a method does what the tree f says -/
def zMt (l : Launch) (w : zWD) (y : MethodName) (cc : ByteArray) (maxL : Nat) (ret : Option FieldType) (rm : Room) (k : Nat) (av : List Value) (f : zMem → zTr) : Prop :=
  ∀ (M : zMem) (r : Int32) (M' : zMem), f M = some (r, M') → Met l y (Cond.code y cc maxL ret :: zW) rm (zPc w av M) (zQc w k r M') 0 0 (zFree w)
/-- the locals -/
def zLo (ls : Array Slot) (lv : List (Option Value)) : Prop := ls.size = lv.length ∧ lv_wf ls ∧ ∀ (i : Nat) (v : Value), lv[i]? = some (some v) → ls[i]? = some (.val v) ∧ v.category = 1
def zPr (lv : List (Option Value)) : List (Nat × Value) := (List.range lv.length).filterMap (fun i => (lv.getD i none).map (fun v => (i, v)))
theorem zPr_mem {lv : List (Option Value)} {q : Nat × Value} : q ∈ zPr lv ↔ lv[q.1]? = some (some q.2) := by
  obtain ⟨i, v⟩ := q
  simp only [zPr, List.mem_filterMap, List.mem_range, Option.map_eq_some_iff, Prod.mk.injEq]
  constructor
  · rintro ⟨j, hj, u, hu, rfl, rfl⟩
    rw [List.getElem?_eq_getElem hj]
    rw [List.getD_eq_getElem?_getD, List.getElem?_eq_getElem hj] at hu
    simpa using hu
  · intro h
    have hj := (List.getElem?_eq_some_iff.mp h).1
    refine ⟨i, hj, v, ?_, rfl, rfl⟩
    rw [List.getD_eq_getElem?_getD, h]
    rfl
theorem zLo.has {ls : Array Slot} {lv : List (Option Value)} (h : zLo ls lv) : lv_has ls lv.length (zPr lv) := ⟨h.1, h.2.1, fun q hq => (h.2.2 q.1 q.2 (zPr_mem.mp hq)).1⟩
theorem zLo.store {ls' : Array Slot} {lv lv' : List (Option Value)} {i : Nat} {v : Value} {ls : Array Slot} (h0 : zLo ls lv) (hi : i < lv.length) (hc : v.category = 1) (hl : lv.set i (some v) = lv')
    (h : lv_has ls' lv.length ((i, v) :: (zPr lv).filter (fun q => !(q.1 == i) && !(q.1 + 1 == i && q.2.category == 2)))) : zLo ls' lv' := by
  subst hl
  refine ⟨by rw [List.length_set]; exact h.1, h.2.1, fun j u hj => ?_⟩
  by_cases hji : j = i
  · subst hji
    rw [List.getElem?_set_self hi] at hj
    cases hj
    exact ⟨h.2.2 (j, v) List.mem_cons_self, hc⟩
  · rw [List.getElem?_set_ne (Ne.symm hji)] at hj
    have hu := (h0.2.2 j u hj).2
    refine ⟨h.2.2 (j, u) (List.mem_cons_of_mem _ (List.mem_filter.mpr ⟨zPr_mem.mpr hj, ?_⟩)), hu⟩
    simp [hji, hu]
/-- fewer locals are known -/
def zSub : List (Option Value) → List (Option Value) → Prop
  | [], [] => True
  | none :: a, _ :: b => zSub a b
  | some v :: a, some u :: b => v = u ∧ zSub a b
  | _, _ => False
theorem zSub.get : ∀ {lv' lv : List (Option Value)}, zSub lv' lv → lv'.length = lv.length ∧ ∀ (i : Nat) (v : Value), lv'[i]? = some (some v) → lv[i]? = some (some v)
  | [], [], _ => ⟨rfl, fun i v h => by simp at h⟩
  | none :: a, x :: b, h => by
    obtain ⟨h1, h2⟩ := zSub.get (lv' := a) (lv := b) (by simpa [zSub] using h)
    refine ⟨by simp [h1], fun i v hv => ?_⟩
    cases i with
    | zero => simp at hv
    | succ i => simpa using h2 i v (by simpa using hv)
  | some v :: a, some u :: b, h => by
    obtain ⟨h0, h⟩ : v = u ∧ zSub a b := h
    subst h0
    obtain ⟨h1, h2⟩ := zSub.get h
    refine ⟨by simp [h1], fun i v hv => ?_⟩
    cases i with
    | zero => simpa using hv
    | succ i => simpa using h2 i v (by simpa using hv)
  | some v :: a, none :: b, h => h.elim
  | some v :: a, [], h => h.elim
  | none :: a, [], h => by simp [zSub] at h
  | [], x :: b, h => by cases x <;> exact h.elim
theorem zLo.sub {ls : Array Slot} {lv lv' : List (Option Value)} (h : zLo ls lv) (hs : zSub lv' lv) : zLo ls lv' :=
  ⟨by rw [hs.get.1]; exact h.1, h.2.1, fun i v hv => h.2.2 i v (hs.get.2 i v hv)⟩
theorem zW_good : ∀ w ∈ zW, ((w.onTables && w.keeps) = true ∨ ∃ ty, w = .arrayClass ty) := fun w h => good_of_word (List.mem_filter.mp h).2
/-- what is fixed while a method runs -/
def zCx (p : Program) (s : State) (m : MethodId) (args : Array Value) (meth : Method) (c : Code) (w : zWD) (own : String) (cc : ByteArray) (nL : Nat) (ret : Option FieldType) : Prop :=
  p.tables.exec = Jvm.exec ∧ c.code = cc ∧ c.maxLocals = nL ∧ s.vm.findClass own = some m.cls ∧ (∀ q ∈ zW, q.before args s = true) ∧ meth.locks = false ∧ meth.sig.returnType = ret ∧ zKK w s s.heap
/-- from here (place pc, locals lv, operands st, memory M) the method does what the tree t says -/
def zRe (p : Program) (l : Launch) (e : Env) (R : Room) (s : State) (m : MethodId) (args : Array Value) (below : List Frame) (meth : Method) (c : Code) (w : zWD) (rk : Nat) (pc : Nat) (lv : List (Option Value)) (st : List Value) (M : zMem) (t : zTr) : Prop :=
  ∀ (r : Int32) (M' : zMem), t = some (r, M') → ∀ (H : Heap) (locs : List Loc) (ls : Array Slot), zRep w M H → va_S (zFree w) s.heap H locs → zLo ls lv →
    W p l e R s m args below meth c H locs 0 0 (MQ below (zQc w rk r M') args s 0 0 (zFree w)) (F0 m pc ls st)
theorem zMt.of {l : Launch} {w : zWD} {y : MethodName} {cc : ByteArray} {maxL : Nat} {ret : Option FieldType} {rm : Room} {k : Nat} {av : List Value} {f : zMem → zTr} (hy : plainName y.cls = true) (lv : List (Option Value)) (hlv : av.map some ++ List.replicate (maxL - av.length) none = lv) (hlen : av.length ≤ maxL) (hcat : ∀ v ∈ av, v.category = 1)
    (h : ∀ (p : Program) (e : Env) (s : State) (m : MethodId) (args : Array Value) (below : List Frame) (meth : Method) (c : Code), zCx p s m args meth c w y.cls cc maxL ret → ∀ M : zMem, zRe p l e rm s m args below meth c w k 0 lv [] M (f M)) : zMt l w y cc maxL ret rm k av f := by
  intro M r M' hf
  refine Met.ofW (cc := cc) (maxL := maxL) (ret := ret) hy rfl ?_
  intro p e s m args below meth c s₁ B hml hv
  obtain ⟨rfl, hR, hK⟩ := hv
  have hts := atoms_spec (ws := Cond.code y cc maxL ret :: zW) B.pre
  have X : zCx p s m av.toArray meth c w y.cls cc maxL ret := ⟨B.exec, B.bytes, hml, findClass_of_methodNamed B.named, fun q hq => hts q (List.mem_cons_of_mem _ hq), B.notSynchronized, B.returns, hK⟩
  have hsl : ∀ av : List Value, (∀ v ∈ av, v.category = 1) → lg_sl av = av.map Slot.val := by
    intro av
    induction av with
    | nil => intro _; rfl
    | cons a b ih =>
      intro hc
      have ha := hc a List.mem_cons_self
      have hb := ih (fun v hv => hc v (List.mem_cons_of_mem _ hv))
      simp only [lg_sl, List.flatMap_cons, List.map_cons] at hb ⊢
      rw [if_neg (by omega), hb]
      rfl
  have h1 := hsl av hcat
  have hl := lv_entry av (n := maxL) (by rw [h1, List.length_map]; exact hlen)
  rw [lg_entry_eq]
  generalize hls : (lg_sl av ++ List.replicate (maxL - (lg_sl av).length) Slot.unset).toArray = ls at hl ⊢
  have hL : zLo ls lv := by
    subst hlv
    refine ⟨?_, hl.2.1, fun i v hi => ?_⟩
    · rw [hl.1]
      simp
      omega
    · have hlt : i < av.length := by
        rcases Nat.lt_or_ge i av.length with q | q
        · exact q
        · rw [List.getElem?_append_right (by simpa using q), List.getElem?_replicate] at hi
          split at hi <;> cases hi
      rw [List.getElem?_append_left (by simpa using hlt), List.getElem?_map] at hi
      cases hg : av[i]? with
      | none => rw [hg] at hi; cases hi
      | some u =>
        rw [hg] at hi
        have eu : u = v := by simpa using hi
        subst eu
        refine ⟨?_, hcat u (List.mem_of_getElem? hg)⟩
        rw [← hls, List.getElem?_toArray, h1, List.getElem?_append_left (by simpa using hlt), List.getElem?_map, hg]
        rfl
  exact h p e s m av.toArray below meth c X M r M' hf s.heap [] ls hR va_S.rf hL
end
section
/-! ===== one rule an instruction, for trees ===== -/
section ZR
variable {p : Program} {l : Launch} {e : Env} {R : Room} {s : State} {m : MethodId} {args : Array Value} {below : List Frame} {meth : Method} {c : Code} {w : zWD} {rk : Nat} {own : String} {cc : ByteArray} {nL : Nat} {ret : Option FieldType} {pc : Nat} {lv lv' : List (Option Value)} {st : List Value} {M : zMem} {t u : zTr} {f : zMem → zTr}
theorem re_none : zRe p l e R s m args below meth c w rk pc lv st M none := fun _ _ h => by cases h
theorem re_ck {q : Prop} [Decidable q] (h : q → zRe p l e R s m args below meth c w rk pc lv st M t) : zRe p l e R s m args below meth c w rk pc lv st M (zCk q t) := by
  by_cases hq : q
  · rw [zCk, if_pos hq]; exact h hq
  · rw [zCk, if_neg hq]; exact re_none
theorem re_sub (h : zRe p l e R s m args below meth c w rk pc lv' st M t) (hs : zSub lv' lv) : zRe p l e R s m args below meth c w rk pc lv st M t :=
  fun r M' ht H locs ls hR hS hL => h r M' ht H locs ls hR hS (hL.sub hs)
theorem re_iload_n (X : zCx p s m args meth c w own cc nL ret) {k : Fin 4} {i : Nat} {x : Int32} (d : decode cc pc = .ok (.iload_n k, 1)) (hk : (k : Nat) = i) (hv : lv[i]? = some (some (.int x))) (h : zRe p l e R s m args below meth c w rk (pc + 1) lv (.int x :: st) M t) : zRe p l e R s m args below meth c w rk pc lv st M t :=
  fun r M' ht H locs ls hR hS hL => lv_iload_n X.1 X.2.1 d hk (hL.2.2 i _ hv).1 (h r M' ht H locs ls hR hS hL)
theorem re_iload (X : zCx p s m args meth c w own cc nL ret) {i : Nat} {x : Int32} (d : decode cc pc = .ok (.iload i, 2)) (hv : lv[i]? = some (some (.int x))) (h : zRe p l e R s m args below meth c w rk (pc + 2) lv (.int x :: st) M t) : zRe p l e R s m args below meth c w rk pc lv st M t :=
  fun r M' ht H locs ls hR hS hL => lv_iload X.1 X.2.1 d (hL.2.2 i _ hv).1 (h r M' ht H locs ls hR hS hL)
theorem re_aload_n (X : zCx p s m args meth c w own cc nL ret) {k : Fin 4} {i : Nat} {x : Nat} (d : decode cc pc = .ok (.aload_n k, 1)) (hk : (k : Nat) = i) (hv : lv[i]? = some (some (.ref x))) (h : zRe p l e R s m args below meth c w rk (pc + 1) lv (.ref x :: st) M t) : zRe p l e R s m args below meth c w rk pc lv st M t :=
  fun r M' ht H locs ls hR hS hL => lv_aload_n X.1 X.2.1 d hk (hL.2.2 i _ hv).1 (h r M' ht H locs ls hR hS hL)
theorem re_aload (X : zCx p s m args meth c w own cc nL ret) {i : Nat} {x : Nat} (d : decode cc pc = .ok (.aload i, 2)) (hv : lv[i]? = some (some (.ref x))) (h : zRe p l e R s m args below meth c w rk (pc + 2) lv (.ref x :: st) M t) : zRe p l e R s m args below meth c w rk pc lv st M t :=
  fun r M' ht H locs ls hR hS hL => lv_aload X.1 X.2.1 d (hL.2.2 i _ hv).1 (h r M' ht H locs ls hR hS hL)
theorem re_istore_n (X : zCx p s m args meth c w own cc nL ret) {k : Fin 4} {i : Nat} {x : Int32} (d : decode cc pc = .ok (.istore_n k, 1)) (hk : (k : Nat) = i) (hi : i < lv.length) (hl : lv.set i (some (.int x)) = lv') (h : zRe p l e R s m args below meth c w rk (pc + 1) lv' st M t) : zRe p l e R s m args below meth c w rk pc lv (.int x :: st) M t :=
  fun r M' ht H locs ls hR hS hL => lv_istore_n X.1 X.2.1 d hk hL.has hi rfl (fun ls' hl' => h r M' ht H locs ls' hR hS (hL.store hi rfl hl hl'))
theorem re_istore (X : zCx p s m args meth c w own cc nL ret) {i : Nat} {x : Int32} (d : decode cc pc = .ok (.istore i, 2)) (hi : i < lv.length) (hl : lv.set i (some (.int x)) = lv') (h : zRe p l e R s m args below meth c w rk (pc + 2) lv' st M t) : zRe p l e R s m args below meth c w rk pc lv (.int x :: st) M t :=
  fun r M' ht H locs ls hR hS hL => lv_istore X.1 X.2.1 d hL.has hi rfl (fun ls' hl' => h r M' ht H locs ls' hR hS (hL.store hi rfl hl hl'))
theorem re_iinc (X : zCx p s m args meth c w own cc nL ret) {i : Nat} {n : Int} {x v : Int32} (d : decode cc pc = .ok (.iinc i n, 3)) (hx : lv[i]? = some (some (.int x))) (hn : Int32.ofInt n = v) (hl : lv.set i (some (.int (x + v))) = lv') (h : zRe p l e R s m args below meth c w rk (pc + 3) lv' st M t) : zRe p l e R s m args below meth c w rk pc lv st M t :=
  fun r M' ht H locs ls hR hS hL => by
    have hi : i < lv.length := (List.getElem?_eq_some_iff.mp hx).1
    obtain ⟨k, hk⟩ := List.getElem?_of_mem (zPr_mem (lv := lv) (q := (i, .int x)).mpr hx)
    exact lv_iinc X.1 X.2.1 d hL.has hk (by rw [hn]) hi rfl (fun ls' hl' => h r M' ht H locs ls' hR hS (hL.store hi rfl hl hl'))
theorem re_iconst (X : zCx p s m args meth c w own cc nL ret) {n : Int} {v : Int32} (d : decode cc pc = .ok (.iconst n, 1)) (hv : Int32.ofInt n = v) (h : zRe p l e R s m args below meth c w rk (pc + 1) lv (.int v :: st) M t) : zRe p l e R s m args below meth c w rk pc lv st M t :=
  fun r M' ht H locs ls hR hS hL => lv_iconst X.1 X.2.1 d hv (h r M' ht H locs ls hR hS hL)
theorem re_bipush (X : zCx p s m args meth c w own cc nL ret) {n : Int} {v : Int32} (d : decode cc pc = .ok (.bipush n, 2)) (hv : (Int8.ofInt n).toInt32 = v) (h : zRe p l e R s m args below meth c w rk (pc + 2) lv (.int v :: st) M t) : zRe p l e R s m args below meth c w rk pc lv st M t :=
  fun r M' ht H locs ls hR hS hL => lv_bipush X.1 X.2.1 d hv (h r M' ht H locs ls hR hS hL)
theorem re_sipush (X : zCx p s m args meth c w own cc nL ret) {n : Int} {v : Int32} (d : decode cc pc = .ok (.sipush n, 3)) (hv : (Int16.ofInt n).toInt32 = v) (h : zRe p l e R s m args below meth c w rk (pc + 3) lv (.int v :: st) M t) : zRe p l e R s m args below meth c w rk pc lv st M t :=
  fun r M' ht H locs ls hR hS hL => lv_sipush X.1 X.2.1 d hv (h r M' ht H locs ls hR hS hL)
theorem re_ldc (X : zCx p s m args meth c w own cc nL ret) {i : Nat} {v : Int32} (hc : Cond.constant own i v ∈ zW) (d : decode cc pc = .ok (.ldc i, 2)) (h : zRe p l e R s m args below meth c w rk (pc + 2) lv (.int v :: st) M t) : zRe p l e R s m args below meth c w rk pc lv st M t :=
  fun r M' ht H locs ls hR hS hL => lv_ldc X.1 X.2.1 X.2.2.2.1 (X.2.2.2.2.1 _ hc) d (h r M' ht H locs ls hR hS hL)
theorem re_ldcw (X : zCx p s m args meth c w own cc nL ret) {i : Nat} {v : Int32} (hc : Cond.constant own i v ∈ zW) (d : decode cc pc = .ok (.ldc_w i, 3)) (h : zRe p l e R s m args below meth c w rk (pc + 3) lv (.int v :: st) M t) : zRe p l e R s m args below meth c w rk pc lv st M t :=
  fun r M' ht H locs ls hR hS hL => lv_ldcw X.1 X.2.1 X.2.2.2.1 (X.2.2.2.2.1 _ hc) d (h r M' ht H locs ls hR hS hL)
theorem re_dup (X : zCx p s m args meth c w own cc nL ret) {v : Value} (d : decode cc pc = .ok (.dup, 1)) (hv : v.category = 1) (h : zRe p l e R s m args below meth c w rk (pc + 1) lv (v :: v :: st) M t) : zRe p l e R s m args below meth c w rk pc lv (v :: st) M t :=
  fun r M' ht H locs ls hR hS hL => lv_dup X.1 X.2.1 d hv (h r M' ht H locs ls hR hS hL)
theorem re_dup2 (X : zCx p s m args meth c w own cc nL ret) {v v2 : Value} (d : decode cc pc = .ok (.dup2, 1)) (hv : v.category = 1) (hv2 : v2.category = 1) (h : zRe p l e R s m args below meth c w rk (pc + 1) lv (v :: v2 :: v :: v2 :: st) M t) : zRe p l e R s m args below meth c w rk pc lv (v :: v2 :: st) M t :=
  fun r M' ht H locs ls hR hS hL => lv_dup2_11 X.1 X.2.1 d hv hv2 (h r M' ht H locs ls hR hS hL)
theorem re_pop (X : zCx p s m args meth c w own cc nL ret) {v : Value} (d : decode cc pc = .ok (.pop, 1)) (hv : v.category = 1) (h : zRe p l e R s m args below meth c w rk (pc + 1) lv st M t) : zRe p l e R s m args below meth c w rk pc lv (v :: st) M t :=
  fun r M' ht H locs ls hR hS hL => lv_pop X.1 X.2.1 d hv (h r M' ht H locs ls hR hS hL)
theorem re_goto (X : zCx p s m args meth c w own cc nL ret) {off : Int} {tgt : Nat} (d : decode cc pc = .ok (.goto off, 3)) (hg : (pc : Int) + off = (tgt : Int)) (h : zRe p l e R s m args below meth c w rk tgt lv st M t) : zRe p l e R s m args below meth c w rk pc lv st M t :=
  fun r M' ht H locs ls hR hS hL => lv_goto X.1 X.2.1 d hg (h r M' ht H locs ls hR hS hL)
theorem re_iadd (X : zCx p s m args meth c w own cc nL ret) {x y : Int32} (d : decode cc pc = .ok (.iadd, 1)) (h : zRe p l e R s m args below meth c w rk (pc + 1) lv (.int (x + y) :: st) M t) : zRe p l e R s m args below meth c w rk pc lv (.int y :: .int x :: st) M t :=
  fun r M' ht H locs ls hR hS hL => lv_iadd X.1 X.2.1 d (h r M' ht H locs ls hR hS hL)
theorem re_isub (X : zCx p s m args meth c w own cc nL ret) {x y : Int32} (d : decode cc pc = .ok (.isub, 1)) (h : zRe p l e R s m args below meth c w rk (pc + 1) lv (.int (x - y) :: st) M t) : zRe p l e R s m args below meth c w rk pc lv (.int y :: .int x :: st) M t :=
  fun r M' ht H locs ls hR hS hL => lv_isub X.1 X.2.1 d (h r M' ht H locs ls hR hS hL)
theorem re_imul (X : zCx p s m args meth c w own cc nL ret) {x y : Int32} (d : decode cc pc = .ok (.imul, 1)) (h : zRe p l e R s m args below meth c w rk (pc + 1) lv (.int (x * y) :: st) M t) : zRe p l e R s m args below meth c w rk pc lv (.int y :: .int x :: st) M t :=
  fun r M' ht H locs ls hR hS hL => lv_imul X.1 X.2.1 d (h r M' ht H locs ls hR hS hL)
theorem re_iand (X : zCx p s m args meth c w own cc nL ret) {x y : Int32} (d : decode cc pc = .ok (.iand, 1)) (h : zRe p l e R s m args below meth c w rk (pc + 1) lv (.int (x &&& y) :: st) M t) : zRe p l e R s m args below meth c w rk pc lv (.int y :: .int x :: st) M t :=
  fun r M' ht H locs ls hR hS hL => lv_iand X.1 X.2.1 d (h r M' ht H locs ls hR hS hL)
theorem re_ior (X : zCx p s m args meth c w own cc nL ret) {x y : Int32} (d : decode cc pc = .ok (.ior, 1)) (h : zRe p l e R s m args below meth c w rk (pc + 1) lv (.int (x ||| y) :: st) M t) : zRe p l e R s m args below meth c w rk pc lv (.int y :: .int x :: st) M t :=
  fun r M' ht H locs ls hR hS hL => lv_ior X.1 X.2.1 d (h r M' ht H locs ls hR hS hL)
theorem re_ixor (X : zCx p s m args meth c w own cc nL ret) {x y : Int32} (d : decode cc pc = .ok (.ixor, 1)) (h : zRe p l e R s m args below meth c w rk (pc + 1) lv (.int (x ^^^ y) :: st) M t) : zRe p l e R s m args below meth c w rk pc lv (.int y :: .int x :: st) M t :=
  fun r M' ht H locs ls hR hS hL => lv_ixor X.1 X.2.1 d (h r M' ht H locs ls hR hS hL)
theorem re_ishl (X : zCx p s m args meth c w own cc nL ret) {x y : Int32} (d : decode cc pc = .ok (.ishl, 1)) (h : zRe p l e R s m args below meth c w rk (pc + 1) lv (.int (x <<< (y &&& 31)) :: st) M t) : zRe p l e R s m args below meth c w rk pc lv (.int y :: .int x :: st) M t :=
  fun r M' ht H locs ls hR hS hL => lv_ishl X.1 X.2.1 d (h r M' ht H locs ls hR hS hL)
theorem re_ishr (X : zCx p s m args meth c w own cc nL ret) {x y : Int32} (d : decode cc pc = .ok (.ishr, 1)) (h : zRe p l e R s m args below meth c w rk (pc + 1) lv (.int (x >>> (y &&& 31)) :: st) M t) : zRe p l e R s m args below meth c w rk pc lv (.int y :: .int x :: st) M t :=
  fun r M' ht H locs ls hR hS hL => lv_ishr X.1 X.2.1 d (h r M' ht H locs ls hR hS hL)
abbrev zUsr (x y : Int32) : Int32 := (x.toUInt32 >>> (y.toUInt32 &&& Int32.toUInt32 31)).toInt32
theorem re_iushr (X : zCx p s m args meth c w own cc nL ret) {x y : Int32} (d : decode cc pc = .ok (.iushr, 1)) (h : zRe p l e R s m args below meth c w rk (pc + 1) lv (.int (zUsr x y) :: st) M t) : zRe p l e R s m args below meth c w rk pc lv (.int y :: .int x :: st) M t :=
  fun r M' ht H locs ls hR hS hL => lv_iushr X.1 X.2.1 d rfl (h r M' ht H locs ls hR hS hL)
theorem re_i2b (X : zCx p s m args meth c w own cc nL ret) {x : Int32} (d : decode cc pc = .ok (.i2b, 1)) (h : zRe p l e R s m args below meth c w rk (pc + 1) lv (.int x.toInt8.toInt32 :: st) M t) : zRe p l e R s m args below meth c w rk pc lv (.int x :: st) M t :=
  fun r M' ht H locs ls hR hS hL => lv_i2b X.1 X.2.1 d rfl (h r M' ht H locs ls hR hS hL)
theorem re_idivK (X : zCx p s m args meth c w own cc nL ret) {x y : Int32} (hy : ¬ y = 0) (d : decode cc pc = .ok (.idiv, 1)) (h : zRe p l e R s m args below meth c w rk (pc + 1) lv (.int (x / y) :: st) M t) : zRe p l e R s m args below meth c w rk pc lv (.int y :: .int x :: st) M t :=
  fun r M' ht H locs ls hR hS hL => lv_idiv X.1 X.2.1 d hy (h r M' ht H locs ls hR hS hL)
theorem re_idiv (X : zCx p s m args meth c w own cc nL ret) {x y : Int32} (d : decode cc pc = .ok (.idiv, 1)) (h : zRe p l e R s m args below meth c w rk (pc + 1) lv (.int (x / y) :: st) M t) : zRe p l e R s m args below meth c w rk pc lv (.int y :: .int x :: st) M (zCk (¬ y = 0) t) :=
  re_ck fun hy => re_idivK X hy d h
theorem re_iremK (X : zCx p s m args meth c w own cc nL ret) {x y : Int32} (hy : ¬ y = 0) (d : decode cc pc = .ok (.irem, 1)) (h : zRe p l e R s m args below meth c w rk (pc + 1) lv (.int (x - x / y * y) :: st) M t) : zRe p l e R s m args below meth c w rk pc lv (.int y :: .int x :: st) M t :=
  fun r M' ht H locs ls hR hS hL => lv_irem X.1 X.2.1 d hy (h r M' ht H locs ls hR hS hL)
theorem re_irem (X : zCx p s m args meth c w own cc nL ret) {x y : Int32} (d : decode cc pc = .ok (.irem, 1)) (h : zRe p l e R s m args below meth c w rk (pc + 1) lv (.int (x - x / y * y) :: st) M t) : zRe p l e R s m args below meth c w rk pc lv (.int y :: .int x :: st) M (zCk (¬ y = 0) t) :=
  re_ck fun hy => re_iremK X hy d h
theorem re_icmp_eq (X : zCx p s m args meth c w own cc nL ret) {x y : Int32} {off : Int} {tgt : Nat} (d : decode cc pc = .ok (.if_icmp .eq off, 3)) (hg : (pc : Int) + off = (tgt : Int)) (h1 : x = y → zRe p l e R s m args below meth c w rk tgt lv st M t) (h2 : ¬ (x = y) → zRe p l e R s m args below meth c w rk (pc + 3) lv st M u) : zRe p l e R s m args below meth c w rk pc lv (.int y :: .int x :: st) M (if x = y then t else u) := by
  intro r M' ht H locs ls hR hS hL
  exact lv_icmp_eq X.1 X.2.1 d hg (fun q => by rw [if_pos q] at ht; exact h1 q r M' ht H locs ls hR hS hL) (fun q => by rw [if_neg q] at ht; exact h2 q r M' ht H locs ls hR hS hL)
theorem re_if_eq (X : zCx p s m args meth c w own cc nL ret) {x : Int32} {off : Int} {tgt : Nat} (d : decode cc pc = .ok (.ifCond .eq off, 3)) (hg : (pc : Int) + off = (tgt : Int)) (h1 : x = 0 → zRe p l e R s m args below meth c w rk tgt lv st M t) (h2 : ¬ (x = 0) → zRe p l e R s m args below meth c w rk (pc + 3) lv st M u) : zRe p l e R s m args below meth c w rk pc lv (.int x :: st) M (if x = 0 then t else u) := by
  intro r M' ht H locs ls hR hS hL
  exact lv_if_eq X.1 X.2.1 d hg (fun q => by rw [if_pos q] at ht; exact h1 q r M' ht H locs ls hR hS hL) (fun q => by rw [if_neg q] at ht; exact h2 q r M' ht H locs ls hR hS hL)
theorem re_icmp_ne (X : zCx p s m args meth c w own cc nL ret) {x y : Int32} {off : Int} {tgt : Nat} (d : decode cc pc = .ok (.if_icmp .ne off, 3)) (hg : (pc : Int) + off = (tgt : Int)) (h1 : x = y → zRe p l e R s m args below meth c w rk (pc + 3) lv st M t) (h2 : ¬ (x = y) → zRe p l e R s m args below meth c w rk tgt lv st M u) : zRe p l e R s m args below meth c w rk pc lv (.int y :: .int x :: st) M (if x = y then t else u) := by
  intro r M' ht H locs ls hR hS hL
  exact lv_icmp_ne X.1 X.2.1 d hg (fun q => by rw [if_neg q] at ht; exact h2 q r M' ht H locs ls hR hS hL) (fun q => by rw [if_pos q] at ht; exact h1 q r M' ht H locs ls hR hS hL)
theorem re_if_ne (X : zCx p s m args meth c w own cc nL ret) {x : Int32} {off : Int} {tgt : Nat} (d : decode cc pc = .ok (.ifCond .ne off, 3)) (hg : (pc : Int) + off = (tgt : Int)) (h1 : x = 0 → zRe p l e R s m args below meth c w rk (pc + 3) lv st M t) (h2 : ¬ (x = 0) → zRe p l e R s m args below meth c w rk tgt lv st M u) : zRe p l e R s m args below meth c w rk pc lv (.int x :: st) M (if x = 0 then t else u) := by
  intro r M' ht H locs ls hR hS hL
  exact lv_if_ne X.1 X.2.1 d hg (fun q => by rw [if_neg q] at ht; exact h2 q r M' ht H locs ls hR hS hL) (fun q => by rw [if_pos q] at ht; exact h1 q r M' ht H locs ls hR hS hL)
theorem re_icmp_lt (X : zCx p s m args meth c w own cc nL ret) {x y : Int32} {off : Int} {tgt : Nat} (d : decode cc pc = .ok (.if_icmp .lt off, 3)) (hg : (pc : Int) + off = (tgt : Int)) (h1 : x < y → zRe p l e R s m args below meth c w rk tgt lv st M t) (h2 : ¬ (x < y) → zRe p l e R s m args below meth c w rk (pc + 3) lv st M u) : zRe p l e R s m args below meth c w rk pc lv (.int y :: .int x :: st) M (if x < y then t else u) := by
  intro r M' ht H locs ls hR hS hL
  exact lv_icmp_lt X.1 X.2.1 d hg (fun q => by rw [if_pos q] at ht; exact h1 q r M' ht H locs ls hR hS hL) (fun q => by rw [if_neg q] at ht; exact h2 q r M' ht H locs ls hR hS hL)
theorem re_if_lt (X : zCx p s m args meth c w own cc nL ret) {x : Int32} {off : Int} {tgt : Nat} (d : decode cc pc = .ok (.ifCond .lt off, 3)) (hg : (pc : Int) + off = (tgt : Int)) (h1 : x < 0 → zRe p l e R s m args below meth c w rk tgt lv st M t) (h2 : ¬ (x < 0) → zRe p l e R s m args below meth c w rk (pc + 3) lv st M u) : zRe p l e R s m args below meth c w rk pc lv (.int x :: st) M (if x < 0 then t else u) := by
  intro r M' ht H locs ls hR hS hL
  exact lv_if_lt X.1 X.2.1 d hg (fun q => by rw [if_pos q] at ht; exact h1 q r M' ht H locs ls hR hS hL) (fun q => by rw [if_neg q] at ht; exact h2 q r M' ht H locs ls hR hS hL)
theorem re_icmp_ge (X : zCx p s m args meth c w own cc nL ret) {x y : Int32} {off : Int} {tgt : Nat} (d : decode cc pc = .ok (.if_icmp .ge off, 3)) (hg : (pc : Int) + off = (tgt : Int)) (h1 : y ≤ x → zRe p l e R s m args below meth c w rk tgt lv st M t) (h2 : ¬ (y ≤ x) → zRe p l e R s m args below meth c w rk (pc + 3) lv st M u) : zRe p l e R s m args below meth c w rk pc lv (.int y :: .int x :: st) M (if y ≤ x then t else u) := by
  intro r M' ht H locs ls hR hS hL
  exact lv_icmp_ge X.1 X.2.1 d hg (fun q => by rw [if_pos q] at ht; exact h1 q r M' ht H locs ls hR hS hL) (fun q => by rw [if_neg q] at ht; exact h2 q r M' ht H locs ls hR hS hL)
theorem re_if_ge (X : zCx p s m args meth c w own cc nL ret) {x : Int32} {off : Int} {tgt : Nat} (d : decode cc pc = .ok (.ifCond .ge off, 3)) (hg : (pc : Int) + off = (tgt : Int)) (h1 : 0 ≤ x → zRe p l e R s m args below meth c w rk tgt lv st M t) (h2 : ¬ (0 ≤ x) → zRe p l e R s m args below meth c w rk (pc + 3) lv st M u) : zRe p l e R s m args below meth c w rk pc lv (.int x :: st) M (if 0 ≤ x then t else u) := by
  intro r M' ht H locs ls hR hS hL
  exact lv_if_ge X.1 X.2.1 d hg (fun q => by rw [if_pos q] at ht; exact h1 q r M' ht H locs ls hR hS hL) (fun q => by rw [if_neg q] at ht; exact h2 q r M' ht H locs ls hR hS hL)
theorem re_icmp_gt (X : zCx p s m args meth c w own cc nL ret) {x y : Int32} {off : Int} {tgt : Nat} (d : decode cc pc = .ok (.if_icmp .gt off, 3)) (hg : (pc : Int) + off = (tgt : Int)) (h1 : y < x → zRe p l e R s m args below meth c w rk tgt lv st M t) (h2 : ¬ (y < x) → zRe p l e R s m args below meth c w rk (pc + 3) lv st M u) : zRe p l e R s m args below meth c w rk pc lv (.int y :: .int x :: st) M (if y < x then t else u) := by
  intro r M' ht H locs ls hR hS hL
  exact lv_icmp_gt X.1 X.2.1 d hg (fun q => by rw [if_pos q] at ht; exact h1 q r M' ht H locs ls hR hS hL) (fun q => by rw [if_neg q] at ht; exact h2 q r M' ht H locs ls hR hS hL)
theorem re_if_gt (X : zCx p s m args meth c w own cc nL ret) {x : Int32} {off : Int} {tgt : Nat} (d : decode cc pc = .ok (.ifCond .gt off, 3)) (hg : (pc : Int) + off = (tgt : Int)) (h1 : 0 < x → zRe p l e R s m args below meth c w rk tgt lv st M t) (h2 : ¬ (0 < x) → zRe p l e R s m args below meth c w rk (pc + 3) lv st M u) : zRe p l e R s m args below meth c w rk pc lv (.int x :: st) M (if 0 < x then t else u) := by
  intro r M' ht H locs ls hR hS hL
  exact lv_if_gt X.1 X.2.1 d hg (fun q => by rw [if_pos q] at ht; exact h1 q r M' ht H locs ls hR hS hL) (fun q => by rw [if_neg q] at ht; exact h2 q r M' ht H locs ls hR hS hL)
theorem re_icmp_le (X : zCx p s m args meth c w own cc nL ret) {x y : Int32} {off : Int} {tgt : Nat} (d : decode cc pc = .ok (.if_icmp .le off, 3)) (hg : (pc : Int) + off = (tgt : Int)) (h1 : x ≤ y → zRe p l e R s m args below meth c w rk tgt lv st M t) (h2 : ¬ (x ≤ y) → zRe p l e R s m args below meth c w rk (pc + 3) lv st M u) : zRe p l e R s m args below meth c w rk pc lv (.int y :: .int x :: st) M (if x ≤ y then t else u) := by
  intro r M' ht H locs ls hR hS hL
  exact lv_icmp_le X.1 X.2.1 d hg (fun q => by rw [if_pos q] at ht; exact h1 q r M' ht H locs ls hR hS hL) (fun q => by rw [if_neg q] at ht; exact h2 q r M' ht H locs ls hR hS hL)
theorem re_if_le (X : zCx p s m args meth c w own cc nL ret) {x : Int32} {off : Int} {tgt : Nat} (d : decode cc pc = .ok (.ifCond .le off, 3)) (hg : (pc : Int) + off = (tgt : Int)) (h1 : x ≤ 0 → zRe p l e R s m args below meth c w rk tgt lv st M t) (h2 : ¬ (x ≤ 0) → zRe p l e R s m args below meth c w rk (pc + 3) lv st M u) : zRe p l e R s m args below meth c w rk pc lv (.int x :: st) M (if x ≤ 0 then t else u) := by
  intro r M' ht H locs ls hR hS hL
  exact lv_if_le X.1 X.2.1 d hg (fun q => by rw [if_pos q] at ht; exact h1 q r M' ht H locs ls hR hS hL) (fun q => by rw [if_neg q] at ht; exact h2 q r M' ht H locs ls hR hS hL)
end ZR
end
section
section ZR2
variable {p : Program} {l : Launch} {e : Env} {R : Room} {s : State} {m : MethodId} {args : Array Value} {below : List Frame} {meth : Method} {c : Code} {w : zWD} {rk : Nat} {own : String} {cc : ByteArray} {nL : Nat} {ret : Option FieldType} {pc : Nat} {lv lv' : List (Option Value)} {st : List Value} {M : zMem} {t u : zTr} {f : zMem → zTr}
theorem zEn_obj {k n o : Nat} (ho : zKd o = (k, n)) (hk : k < 11) : zEn w M o = .inr (k, (List.range n).map (fun i => zFv w M k o i)) := by
  simp only [zEn, ho, if_pos hk]
theorem zEn_arr {k n o : Nat} (ho : zKd o = (k, n)) (h1 : 11 ≤ k) (h2 : k < 14) : zEn w M o = .inl (zC w k, n, .inl (M o)) := by
  simp only [zEn, ho, if_neg (show ¬ k < 11 by omega), if_pos h2]
theorem zEn_rows {k n o : Nat} (ho : zKd o = (k, n)) (h1 : 14 ≤ k) : zEn w M o = .inl (zC w (zAk k), n, .inr (.inr (.inr (.inr (fun i => some (zA w (zRf o i))))))) := by
  simp only [zEn, ho, if_neg (show ¬ k < 11 by omega), if_neg (show ¬ k < 14 by omega)]
theorem zFv_int {k o i : Nat} (h : zFr k i = false) : zFv w M k o i = .int (M o i) := by simp [zFv, h]
theorem zFv_ref {k o i : Nat} (h : zFr k i = true) : zFv w M k o i = .ref (zA w (zRf o i)) := by simp [zFv, h]
theorem zIn_vp {i : Int32} {n : Nat} (h : zIn i n) : vp_in i n := vp_in_iff.mpr h
/-- a class of the system, by its number -/
def zCl (ci N : Nat) (C : String) (T : u_T) (ty : Nat → FieldType) : Prop := vwCl[ci]? = some (C, T, N) ∧ ci < 11 ∧ (∀ k, k < N → parseFieldDescriptor (T k).2.2.1 = some (ty k)) ∧ (∀ a, a < N → ∀ b, b < N → a ≠ b → (T a).2.1 ≠ (T b).2.1) ∧ ∀ w ∈ u_ws C T N, w ∈ zW
theorem re_getV (X : zCx p s m args meth c w own cc nL ret) {ci N k o idx : Nat} {C : String} {T : u_T} {ty : Nat → FieldType} (B : zCl ci N C T ty) (hk : k < N) (L : Cond.fieldLink own idx (T k).1 (T k).2.1 (T k).2.2.1 ∈ zW) (ho : zKd o = (ci, N)) {v : Value} (hv : zFv w M ci o k = v) (d : decode cc pc = .ok (.getfield idx, 3)) (h : zRe p l e R s m args below meth c w rk (pc + 3) lv (v :: st) M t) : zRe p l e R s m args below meth c w rk pc lv (.ref (zA w o) :: st) M t := by
  intro r M' ht H locs ls hR hS hL
  obtain ⟨hx, hb, -, hown, hts, -, -, hKK⟩ := X
  obtain ⟨b1, b2, b3, b4, b5⟩ := B
  have hlt := zKd_lt ho (by omega)
  refine va_get hx hb hts b5 hown hKK.1 hR o (by rw [zWl_get w M hlt, zEn_obj ho b2]) b1 k hk (hts _ L) (fun _ q => q) (v := v) ?_ d (h r M' ht H locs ls hR hS hL)
  rw [List.getElem?_map, List.getElem?_range hk, ← hv]
  rfl
theorem re_getI (X : zCx p s m args meth c w own cc nL ret) {ci N k o idx : Nat} {C : String} {T : u_T} {ty : Nat → FieldType} (B : zCl ci N C T ty) (hk : k < N) (L : Cond.fieldLink own idx (T k).1 (T k).2.1 (T k).2.2.1 ∈ zW) (ho : zKd o = (ci, N)) (hf : zFr ci k = false) (d : decode cc pc = .ok (.getfield idx, 3)) (h : zRe p l e R s m args below meth c w rk (pc + 3) lv (.int (M o k) :: st) M t) : zRe p l e R s m args below meth c w rk pc lv (.ref (zA w o) :: st) M t :=
  re_getV X B hk L ho (zFv_int hf) d h
theorem re_getR (X : zCx p s m args meth c w own cc nL ret) {ci N k o idx b : Nat} {C : String} {T : u_T} {ty : Nat → FieldType} (B : zCl ci N C T ty) (hk : k < N) (L : Cond.fieldLink own idx (T k).1 (T k).2.1 (T k).2.2.1 ∈ zW) (ho : zKd o = (ci, N)) (hf : zFr ci k = true) (hb : zRf o k = b) (d : decode cc pc = .ok (.getfield idx, 3)) (h : zRe p l e R s m args below meth c w rk (pc + 3) lv (.ref (zA w b) :: st) M t) : zRe p l e R s m args below meth c w rk pc lv (.ref (zA w o) :: st) M t :=
  re_getV X B hk L ho ((zFv_ref hf).trans (by rw [hb])) d h
theorem zB_ok {x : Int32} (h : zOk 2 x) : narrow .boolean (.int x) = .int x ∧ fits .boolean (.int x) = true := by
  rcases h with rfl | rfl
  · exact ⟨by decide +kernel, by decide +kernel⟩
  · exact ⟨by decide +kernel, by decide +kernel⟩
theorem re_putV (X : zCx p s m args meth c w own cc nL ret) {ci N k o idx : Nat} {C : String} {T : u_T} {ty : Nat → FieldType} (B : zCl ci N C T ty) (hk : k < N) (L : Cond.fieldLink own idx (T k).1 (T k).2.1 (T k).2.2.1 ∈ zW) (ho : zKd o = (ci, N)) (hf : zFr ci k = false) (hfin : (T k).2.2.2 = false) {x : Int32} (hn : narrow (ty k) (.int x) = .int x) (hfit : fits (ty k) (.int x) = true) (d : decode cc pc = .ok (.putfield idx, 3)) (h : ∀ M1, zRe p l e R s m args below meth c w rk (pc + 3) lv st M1 (f M1)) : zRe p l e R s m args below meth c w rk pc lv (.int x :: .ref (zA w o) :: st) M (zLt (zUp M o k x) f) := by
  intro r M' ht H locs ls hR hS hL
  obtain ⟨hx, hb, -, hown, hts, -, -, hKK⟩ := X
  obtain ⟨b1, b2, b3, b4, b5⟩ := B
  have hlt := zKd_lt ho (by omega)
  refine va_put hx hb hts b5 ty b3 b4 hown hKK.1 hR (hKK.D M) hS o (by rw [zWl_get w M hlt, zEn_obj ho b2]) b1 k hk (hts _ L) (fun _ q => q) hfin (b3 k hk) hn hfit (by simpa using hk) d (fun H1 locs1 hP1 _ hS1 => ?_)
  rw [zWl_set w M (zUp M o k x) hlt ?_ (fun b hb => zUp_off hb)] at hP1
  · exact h (zUp M o k x) r M' ht H1 locs1 ls hP1 hS1 hL
  · rw [zEn_obj ho b2]
    congr 2
    apply List.ext_getElem?
    intro i
    rw [List.getElem?_map]
    by_cases hi : i = k
    · subst hi
      rw [List.getElem?_set_self (by simpa using hk), List.getElem?_range hk]
      simp [zFv, hf, zUp]
    · rw [List.getElem?_set_ne (Ne.symm hi), List.getElem?_map]
      by_cases hl : i < N
      · rw [List.getElem?_range hl]
        simp [zFv, zUp, hi]
      · rw [List.getElem?_eq_none (by simpa using hl)]
        rfl
theorem re_putI (X : zCx p s m args meth c w own cc nL ret) {ci N k o idx : Nat} {C : String} {T : u_T} {ty : Nat → FieldType} (B : zCl ci N C T ty) (hk : k < N) (L : Cond.fieldLink own idx (T k).1 (T k).2.1 (T k).2.2.1 ∈ zW) (ho : zKd o = (ci, N)) (hf : zFr ci k = false) (hfin : (T k).2.2.2 = false) (hty : ty k = .int) {x : Int32} (d : decode cc pc = .ok (.putfield idx, 3)) (h : ∀ M1, zRe p l e R s m args below meth c w rk (pc + 3) lv st M1 (f M1)) : zRe p l e R s m args below meth c w rk pc lv (.int x :: .ref (zA w o) :: st) M (zLt (zUp M o k x) f) :=
  re_putV X B hk L ho hf hfin (by rw [hty]; rfl) (by rw [hty]; rfl) d h
theorem re_putZ (X : zCx p s m args meth c w own cc nL ret) {ci N k o idx : Nat} {C : String} {T : u_T} {ty : Nat → FieldType} (B : zCl ci N C T ty) (hk : k < N) (L : Cond.fieldLink own idx (T k).1 (T k).2.1 (T k).2.2.1 ∈ zW) (ho : zKd o = (ci, N)) (hf : zFr ci k = false) (hfin : (T k).2.2.2 = false) (hty : ty k = .boolean) {x : Int32} (hz : zOk 2 x) (d : decode cc pc = .ok (.putfield idx, 3)) (h : ∀ M1, zRe p l e R s m args below meth c w rk (pc + 3) lv st M1 (f M1)) : zRe p l e R s m args below meth c w rk pc lv (.int x :: .ref (zA w o) :: st) M (zLt (zUp M o k x) f) :=
  re_putV X B hk L ho hf hfin (by rw [hty]; exact (zB_ok hz).1) (by rw [hty]; exact (zB_ok hz).2) d h
/-! arrays -/
theorem re_iald (X : zCx p s m args meth c w own cc nL ret) {n q : Nat} {i : Int32} {j : Nat} (hq : zKd q = (12, n)) (hin : zIn i n) (hj : zIx i = j) (d : decode cc pc = .ok (.iaload, 1)) (h : zRe p l e R s m args below meth c w rk (pc + 1) lv (.int (M q j) :: st) M t) : zRe p l e R s m args below meth c w rk pc lv (.int i :: .ref (zA w q) :: st) M t := by
  subst hj
  intro r M' ht H locs ls hR hS hL
  exact va_iald X.1 X.2.1 X.2.2.2.2.2.2.2.1 hR q 1 (by rw [zWl_get w M (zKd_lt hq (by omega)), zEn_arr hq (by omega) (by omega)]) rfl (zIn_vp hin) d (h r M' ht H locs ls hR hS hL)
theorem re_zald (X : zCx p s m args meth c w own cc nL ret) {n q : Nat} {i : Int32} {j : Nat} (hq : zKd q = (13, n)) (hin : zIn i n) (hj : zIx i = j) (d : decode cc pc = .ok (.baload, 1)) (h : zRe p l e R s m args below meth c w rk (pc + 1) lv (.int (M q j) :: st) M t) : zRe p l e R s m args below meth c w rk pc lv (.int i :: .ref (zA w q) :: st) M t := by
  subst hj
  intro r M' ht H locs ls hR hS hL
  exact va_zald X.1 X.2.1 X.2.2.2.2.2.2.2.1 hR q 2 (by rw [zWl_get w M (zKd_lt hq (by omega)), zEn_arr hq (by omega) (by omega)]) rfl (zIn_vp hin) d (h r M' ht H locs ls hR hS hL)
theorem re_bald (X : zCx p s m args meth c w own cc nL ret) {n q : Nat} {i : Int32} {j : Nat} (hq : zKd q = (11, n)) (hin : zIn i n) (hj : zIx i = j) (d : decode cc pc = .ok (.baload, 1)) (h : zRe p l e R s m args below meth c w rk (pc + 1) lv (.int (M q j) :: st) M t) : zRe p l e R s m args below meth c w rk pc lv (.int i :: .ref (zA w q) :: st) M t := by
  subst hj
  intro r M' ht H locs ls hR hS hL
  exact va_bald X.1 X.2.1 X.2.2.2.2.2.2.2.1 hR q 0 (by rw [zWl_get w M (zKd_lt hq (by omega)), zEn_arr hq (by omega) (by omega)]) rfl (zIn_vp hin) d (h r M' ht H locs ls hR hS hL)
theorem re_aald (X : zCx p s m args meth c w own cc nL ret) {k n q : Nat} {i : Int32} {j b : Nat} (hq : zKd q = (k, n)) (h1 : 14 ≤ k ∧ k < 21) (hin : zIn i n) (hj : zIx i = j) (hb : zRf q j = b) (d : decode cc pc = .ok (.aaload, 1)) (h : zRe p l e R s m args below meth c w rk (pc + 1) lv (.ref (zA w b) :: st) M t) : zRe p l e R s m args below meth c w rk pc lv (.int i :: .ref (zA w q) :: st) M t := by
  subst hj
  subst hb
  intro r M' ht H locs ls hR hS hL
  have hP := hR q _ (zWl_get w M (zKd_lt hq h1.2))
  rw [zEn_rows hq h1.1] at hP
  have hP : H[zA w q]? = some (arrV (zC w (zAk k)) n (fun j => va_rf (some (zA w (zRf q j))))) := hP
  have hv := zIn_vp hin
  have hz : (zIx i) < n := by
    have := hv
    simp only [vp_in, not_or, Nat.not_le] at this
    exact this.2
  obtain ⟨ty, hty, hA⟩ : ∃ ty : FieldType, ty.isReference = true ∧ ArrOfT s (zC w (zAk k)) ty := by
    have hK := X.2.2.2.2.2.2.2.1
    by_cases hk : k = 15 ∨ k = 17 ∨ k = 20
    · rw [zAk, if_pos hk]; exact ⟨_, rfl, (hK.2 4 _ rfl).1⟩
    · rw [zAk, if_neg hk]; exact ⟨_, rfl, (hK.2 3 _ rfl).1⟩
  refine W.aald X.1 X.2.1 (v := .ref (zA w (zRf q (zIx i)))) hP (hA n _) hty (fun q => by cases q) (by rw [arrV_size]; exact hv) ?_ rfl rfl d (h r M' ht H locs ls hR hS hL)
  rw [arrV_read _ _ hz]
  rfl
theorem zArr_set {k n q : Nat} {j : Nat} {x : Int32} (hq : zKd q = (k, n)) (h1 : 11 ≤ k) (h2 : k < 14) : (zWl w M).set q (zA w q, .inl (zC w k, n, .inl (upd (M q) j x))) = zWl w (zUp M q j x) :=
  zWl_set w M (zUp M q j x) (zKd_lt hq (by omega)) (by rw [zEn_arr hq h1 h2, zUp_row]) (fun _ hb => zUp_off hb)
theorem re_iast (X : zCx p s m args meth c w own cc nL ret) {n q : Nat} {i x : Int32} {j : Nat} (hq : zKd q = (12, n)) (hin : zIn i n) (hj : zIx i = j) (d : decode cc pc = .ok (.iastore, 1)) (h : ∀ M1, zRe p l e R s m args below meth c w rk (pc + 1) lv st M1 (f M1)) : zRe p l e R s m args below meth c w rk pc lv (.int x :: .int i :: .ref (zA w q) :: st) M (zLt (zUp M q j x) f) := by
  subst hj
  intro r M' ht H locs ls hR hS hL
  have hKK := X.2.2.2.2.2.2.2
  refine va_iast X.1 X.2.1 hKK.1 hR (hKK.D M) hS q 1 (by rw [zWl_get w M (zKd_lt hq (by omega)), zEn_arr hq (by omega) (by omega)]) rfl (zIn_vp hin) d (fun H1 locs1 hP1 _ hS1 => ?_)
  rw [zArr_set hq (by omega) (by omega)] at hP1
  exact h _ r M' ht H1 locs1 ls hP1 hS1 hL
theorem re_zast (X : zCx p s m args meth c w own cc nL ret) {n q : Nat} {i x v : Int32} {j : Nat} (hq : zKd q = (13, n)) (hin : zIn i n) (hj : zIx i = j) (hv : vp_nar .boolean x = v) (d : decode cc pc = .ok (.bastore, 1)) (h : ∀ M1, zRe p l e R s m args below meth c w rk (pc + 1) lv st M1 (f M1)) : zRe p l e R s m args below meth c w rk pc lv (.int x :: .int i :: .ref (zA w q) :: st) M (zLt (zUp M q j v) f) := by
  subst hj
  intro r M' ht H locs ls hR hS hL
  have hKK := X.2.2.2.2.2.2.2
  refine va_zast X.1 X.2.1 hKK.1 hR (hKK.D M) hS q 2 (by rw [zWl_get w M (zKd_lt hq (by omega)), zEn_arr hq (by omega) (by omega)]) rfl (zIn_vp hin) d (fun H1 locs1 hP1 _ hS1 => ?_)
  rw [zArr_set hq (by omega) (by omega), hv] at hP1
  exact h _ r M' ht H1 locs1 ls hP1 hS1 hL
theorem re_bast (X : zCx p s m args meth c w own cc nL ret) {n q : Nat} {i x v : Int32} {j : Nat} (hq : zKd q = (11, n)) (hin : zIn i n) (hj : zIx i = j) (hv : vp_nar .byte x = v) (d : decode cc pc = .ok (.bastore, 1)) (h : ∀ M1, zRe p l e R s m args below meth c w rk (pc + 1) lv st M1 (f M1)) : zRe p l e R s m args below meth c w rk pc lv (.int x :: .int i :: .ref (zA w q) :: st) M (zLt (zUp M q j v) f) := by
  subst hj
  intro r M' ht H locs ls hR hS hL
  have hKK := X.2.2.2.2.2.2.2
  refine va_bast X.1 X.2.1 hKK.1 hR (hKK.D M) hS q 0 (by rw [zWl_get w M (zKd_lt hq (by omega)), zEn_arr hq (by omega) (by omega)]) rfl (zIn_vp hin) d (fun H1 locs1 hP1 _ hS1 => ?_)
  rw [zArr_set hq (by omega) (by omega), hv] at hP1
  exact h _ r M' ht H1 locs1 ls hP1 hS1 hL
theorem zNar_b {x : Int32} (h : zOk 2 x) : vp_nar .boolean x = x := by
  simp only [vp_nar, (zB_ok h).1]
/-! ends -/
theorem re_iret (X : zCx p s m args meth c w own cc nL (some .int)) {x : Int32} (d : decode cc pc = .ok (.ireturn, 1)) : zRe p l e R s m args below meth c w 1 pc lv [.int x] M (some (x, M)) := by
  intro r M' ht H locs ls hR hS hL
  cases ht
  have hlocks := X.2.2.2.2.2.1
  exact W.iret X.1 X.2.1 X.2.2.2.2.2.2.1 (fun t ht hW => ⟨rfl, trivial, by rw [ht]; exact hR, hS.F ht⟩) hS.2.2 d
theorem re_zret (X : zCx p s m args meth c w own cc nL (some .boolean)) {x : Int32} (hz : zOk 2 x) (d : decode cc pc = .ok (.ireturn, 1)) : zRe p l e R s m args below meth c w 2 pc lv [.int x] M (some (x, M)) := by
  intro r M' ht H locs ls hR hS hL
  cases ht
  have hlocks := X.2.2.2.2.2.1
  exact W.zret X.1 X.2.1 X.2.2.2.2.2.2.1 (zB_ok hz).1 (fun t ht hW => ⟨rfl, hz, by rw [ht]; exact hR, hS.F ht⟩) hS.2.2 d
theorem re_vret (X : zCx p s m args meth c w own cc nL none) (d : decode cc pc = .ok (.return_, 1)) : zRe p l e R s m args below meth c w 0 pc lv [] M (some (0, M)) := by
  intro r M' ht H locs ls hR hS hL
  cases ht
  have hlocks := X.2.2.2.2.2.1
  exact W.vret X.1 X.2.1 X.2.2.2.2.2.2.1 (fun t ht hW => ⟨rfl, trivial, by rw [ht]; exact hR, hS.F ht⟩) hS.2.2 d
end ZR2
end
section
section ZR3
variable {p : Program} {l : Launch} {e : Env} {R : Room} {s : State} {m : MethodId} {args : Array Value} {below : List Frame} {meth : Method} {c : Code} {w : zWD} {rk : Nat} {own : String} {cc : ByteArray} {nL : Nat} {ret : Option FieldType} {pc : Nat} {lv lv' : List (Option Value)} {st st0 : List Value} {M : zMem} {t u : zTr} {f : zMem → zTr} {g : Int32 → zMem → zTr}
/-! calls -/
theorem re_run {H : Heap} {locs : List Loc} {Q : State → Prop} {ls : Array Slot} {k : Nat} {r : Int32} {M1 : zMem} {a : Array Value} (hr : va_Run p l e R s m args below meth c H locs 0 0 0 0 (F0 m pc ls st0) st (zQc w k r M1 a) (zFree w)) (hS : va_S (zFree w) s.heap H locs)
    (kk : ∀ (H1 : Heap) (locs1 : List Loc), zOk k r → zRep w M1 H1 → va_S (zFree w) s.heap H1 locs1 → W p l e R s m args below meth c H1 locs1 0 0 Q (F0 m (pc + 3) ls ((zRv w k r).toList ++ st))) : W p l e R s m args below meth c H locs 0 0 Q (F0 m pc ls st0) := by
  intro T hT X
  obtain ⟨v, st₀, t, T', L, h0, X', hL, e1, e2, ⟨hv, hok, hR, hz, hk⟩, stp⟩ := hr T hT X
  cases hv
  rw [h0] at hz hk
  have hR : zRep w M1 T'.heap := by rw [e1]; exact hR
  obtain ⟨t2, a1, b1⟩ := kk T'.heap (locs ++ L) hok hR
    ⟨Nat.le_trans hS.1 (by rw [e1]; exact hz), fun q h1 h2 => by rw [e1, hk q (Nat.lt_of_lt_of_le h1 hS.1) h2]; exact hS.2.1 q h1 h2, fun q hq => by
      rcases List.mem_append.mp hq with h | h
      · exact hS.2.2 q h
      · exact hL q h⟩ T' rfl X'
  exact ⟨t2, stp t2 a1, b1⟩
/-- what a call rests on: the callee's names, and its room -/
def zCa (y : MethodName) (bytes : ByteArray) (maxL : Nat) (ret' : Option FieldType) (rm R : Room) (n : Nat) : Prop :=
  Cond.code y bytes maxL ret' ∈ zW ∧ Cond.initialized y.cls ∈ zW ∧ (y.cls ≠ "java/lang/invoke/MethodHandle" ∧ y.cls ≠ "java/lang/invoke/VarHandle" ∧ (parseMethodDescriptor y.desc).map (fun d => d.parameters.length) = some n) ∧ rm.cells = 0 ∧ rm.slots = 0 ∧ rm.frames + 1 ≤ R.frames ∧ 8 + (maxL + 11) + rm.locals ≤ R.locals
theorem zCa.good {y : MethodName} {bytes : ByteArray} {maxL : Nat} {ret' : Option FieldType} (h : Cond.code y bytes maxL ret' ∈ zW) : GoodIn zW (Cond.code y bytes maxL ret' :: zW) := fun w hw => by
  rcases List.mem_cons.mp hw with rfl | hw
  · exact ⟨h, zW_good _ h⟩
  · exact ⟨hw, zW_good _ hw⟩
theorem zBlind {av : List Value} {M : zMem} : FrameBlind (zPc w av M) := fun a U g mk h => ⟨h.1, h.2.1, zKK.same (u := U) (U := U.calling g mk a) rfl rfl h.2.2⟩
theorem zPre (X : zCx p s m args meth c w own cc nL ret) {H : Heap} {locs : List Loc} {av : List Value} (hR : zRep w M H) (hS : va_S (zFree w) s.heap H locs) : ∀ U : State, U.heap = H → s.WarmedH U.vm → zPc w av M av.toArray U :=
  fun U hU hW => ⟨rfl, by rw [hU]; exact hR, zKK.go hW hS hU X.2.2.2.2.2.2.2⟩
theorem zFix (X : zCx p s m args meth c w own cc nL ret) : CallFix p m c cc nL s args zW own := ⟨X.1, X.2.1, X.2.2.1, X.2.2.2.1, X.2.2.2.2.1⟩
theorem zB {y : MethodName} {bytes : ByteArray} {maxL n idx : Nat} {ret' : Option FieldType} {rm : Room} (X : zCx p s m args meth c w own cc nL ret) (A : zCa y bytes maxL ret' rm R n) (L : Cond.methodLink own idx y ∈ zW) : CallB R s args own idx y bytes maxL ret' (Cond.code y bytes maxL ret' :: zW) rm 0 0 n := by
  obtain ⟨a1, a2, a3, a4, a5, a6, a7⟩ := A
  exact callB_of n X.2.2.2.2.1 (zCa.good a1) rfl a4 a5 (X.2.2.2.2.1 _ a2) (X.2.2.2.2.1 _ L) a3 ⟨a6, a7⟩
theorem zRec (X : zCx p s m args meth c w own cc nL ret) {H : Heap} {ci N o : Nat} {C : String} {T : u_T} {ty : Nat → FieldType} (B : zCl ci N C T ty) (ho : zKd o = (ci, N)) (hR : zRep w M H) : ∃ cellB : Cell, H[zA w o]? = some cellB ∧ cellB.vm.isStatics = false ∧ s.vm.findClass C = some cellB.cls := by
  have hP := hR o _ (zWl_get w M (zKd_lt ho (by have := B.2.1; omega)))
  rw [zEn_obj ho B.2.1] at hP
  obtain ⟨r, h1, cell, h2, h3, h4, -⟩ := hP
  have hr : r = (C, T, N) := Option.some.inj (h1.symm.trans B.1)
  subst hr
  refine ⟨cell, h2, by rw [h4]; rfl, ?_⟩
  rw [h3]
  exact (X.2.2.2.2.2.2.2.1.1 ci _ B.1).2.1
theorem re_callV (X : zCx p s m args meth c w own cc nL ret) {y : MethodName} {bytes : ByteArray} {maxL n idx k : Nat} {ret' : Option FieldType} {rm : Room} {ci N o : Nat} {T : u_T} {ty : Nat → FieldType} {As : List Value} (hM : zMt l w y bytes maxL ret' rm k (.ref (zA w o) :: As) f) (A : zCa y bytes maxL ret' rm R n) (L : Cond.methodLink own idx y ∈ zW) (I : Cond.instanceMethod y ∈ zW) (S : Cond.selects y.cls y y ∈ zW) (B : zCl ci N y.cls T ty) (ho : zKd o = (ci, N))
    (hn : As.length = n) (hlen : lv.length = nL) (hst : st0 = As.reverse ++ .ref (zA w o) :: st) (hroom : (st.map fun v => v.category).sum ≤ 8) (d : decode cc pc = .ok (.invokevirtual idx, 3)) (h : ∀ r M1, zOk k r → zRe p l e R s m args below meth c w rk (pc + 3) lv ((zRv w k r).toList ++ st) M1 (g r M1)) : zRe p l e R s m args below meth c w rk pc lv st0 M (zBd (f M) g) := by
  intro r M' ht H locs ls hR hS hL
  cases hf : f M with
  | none => rw [hf] at ht; cases ht
  | some q =>
    obtain ⟨r1, M1⟩ := q
    rw [hf] at ht
    subst hst
    refine re_run (va_runV (As := As) (rest := st) (zFix X) (hM M r1 M1 hf) ⟨zB X A L, X.2.2.2.2.1 _ I, X.2.2.2.2.1 _ S⟩ ⟨zBlind, zRec X B ho hR, zPre X hR hS⟩ rfl hn (hL.1.trans hlen) rfl (lv_room hroom) d ⟨by omega, by omega⟩) hS (fun H1 locs1 hok hR1 hS1 => h r1 M1 hok r M' ht H1 locs1 ls hR1 hS1 hL)
theorem re_callS (X : zCx p s m args meth c w own cc nL ret) {y : MethodName} {bytes : ByteArray} {maxL n idx k : Nat} {ret' : Option FieldType} {rm : Room} {As : List Value} (hM : zMt l w y bytes maxL ret' rm k As f) (A : zCa y bytes maxL ret' rm R n) (L : Cond.methodLink own idx y ∈ zW) (I : Cond.static y ∈ zW)
    (hn : As.length = n) (hlen : lv.length = nL) (hst : st0 = As.reverse ++ st) (hroom : (st.map fun v => v.category).sum ≤ 8) (d : decode cc pc = .ok (.invokestatic idx, 3)) (h : ∀ r M1, zOk k r → zRe p l e R s m args below meth c w rk (pc + 3) lv ((zRv w k r).toList ++ st) M1 (g r M1)) : zRe p l e R s m args below meth c w rk pc lv st0 M (zBd (f M) g) := by
  intro r M' ht H locs ls hR hS hL
  cases hf : f M with
  | none => rw [hf] at ht; cases ht
  | some q =>
    obtain ⟨r1, M1⟩ := q
    rw [hf] at ht
    subst hst
    refine re_run (va_runS (As := As) (rest := st) (zFix X) (hM M r1 M1 hf) ⟨zB X A L, X.2.2.2.2.1 _ I⟩ ⟨zBlind, zPre X hR hS⟩ rfl hn (hL.1.trans hlen) rfl (lv_room hroom) d ⟨by omega, by omega⟩) hS (fun H1 locs1 hok hR1 hS1 => h r1 M1 hok r M' ht H1 locs1 ls hR1 hS1 hL)
/-- a private static of the nest's host -/
theorem re_callN (X : zCx p s m args meth c w own cc nL ret) {y : MethodName} {bytes : ByteArray} {maxL n idx k : Nat} {ret' : Option FieldType} {rm : Room} {As : List Value} {host : String} (hM : zMt l w y bytes maxL ret' rm k As f) (A : zCa y bytes maxL ret' rm R n) (L : (own, idx, y, host) ∈ zNw) (I : Cond.static y ∈ zW)
    (hn : As.length = n) (hlen : lv.length = nL) (hst : st0 = As.reverse ++ st) (hroom : (st.map fun v => v.category).sum ≤ 8) (d : decode cc pc = .ok (.invokestatic idx, 3)) (h : ∀ r M1, zOk k r → zRe p l e R s m args below meth c w rk (pc + 3) lv ((zRv w k r).toList ++ st) M1 (g r M1)) : zRe p l e R s m args below meth c w rk pc lv st0 M (zBd (f M) g) := by
  intro r M' ht H locs ls hR hS hL
  cases hf : f M with
  | none => rw [hf] at ht; cases ht
  | some q =>
    obtain ⟨r1, M1⟩ := q
    rw [hf] at ht
    subst hst
    obtain ⟨a1, a2, a3, a4, a5, a6, a7⟩ := A
    refine re_run (va_runSN (As := As) (rest := st) (zFix X) (hM M r1 M1 hf) ⟨va_cnB (host := host) n X.2.2.2.2.1 (zCa.good a1) rfl a4 a5 (X.2.2.2.2.2.2.2.2.2.2.2.2 _ L) (X.2.2.2.2.1 _ a2) a3 ⟨a6, a7⟩, X.2.2.2.2.1 _ I, trivial⟩ ⟨zBlind, zPre X hR hS⟩ rfl hn (hL.1.trans hlen) rfl (lv_room hroom) d ⟨by omega, by omega⟩) hS (fun H1 locs1 hok hR1 hS1 => h r1 M1 hok r M' ht H1 locs1 ls hR1 hS1 hL)
theorem re_callVv (X : zCx p s m args meth c w own cc nL ret) {y : MethodName} {bytes : ByteArray} {maxL n idx : Nat} {ret' : Option FieldType} {rm : Room} {ci N o : Nat} {T : u_T} {ty : Nat → FieldType} {As : List Value} (hM : zMt l w y bytes maxL ret' rm 0 (.ref (zA w o) :: As) f) (A : zCa y bytes maxL ret' rm R n) (L : Cond.methodLink own idx y ∈ zW) (I : Cond.instanceMethod y ∈ zW) (S : Cond.selects y.cls y y ∈ zW) (B : zCl ci N y.cls T ty) (ho : zKd o = (ci, N))
    (hn : As.length = n) (hlen : lv.length = nL) (hst : st0 = As.reverse ++ .ref (zA w o) :: st) (hroom : (st.map fun v => v.category).sum ≤ 8) (d : decode cc pc = .ok (.invokevirtual idx, 3)) (h : ∀ r M1, zOk 0 r → zRe p l e R s m args below meth c w rk (pc + 3) lv st M1 (g r M1)) : zRe p l e R s m args below meth c w rk pc lv st0 M (zBd (f M) g) :=
  re_callV X hM A L I S B ho hn hlen hst hroom d h
theorem re_callVi (X : zCx p s m args meth c w own cc nL ret) {y : MethodName} {bytes : ByteArray} {maxL n idx : Nat} {ret' : Option FieldType} {rm : Room} {ci N o : Nat} {T : u_T} {ty : Nat → FieldType} {As : List Value} (hM : zMt l w y bytes maxL ret' rm 1 (.ref (zA w o) :: As) f) (A : zCa y bytes maxL ret' rm R n) (L : Cond.methodLink own idx y ∈ zW) (I : Cond.instanceMethod y ∈ zW) (S : Cond.selects y.cls y y ∈ zW) (B : zCl ci N y.cls T ty) (ho : zKd o = (ci, N))
    (hn : As.length = n) (hlen : lv.length = nL) (hst : st0 = As.reverse ++ .ref (zA w o) :: st) (hroom : (st.map fun v => v.category).sum ≤ 8) (d : decode cc pc = .ok (.invokevirtual idx, 3)) (h : ∀ r M1, zOk 1 r → zRe p l e R s m args below meth c w rk (pc + 3) lv (.int r :: st) M1 (g r M1)) : zRe p l e R s m args below meth c w rk pc lv st0 M (zBd (f M) g) :=
  re_callV X hM A L I S B ho hn hlen hst hroom d h
theorem re_callVz (X : zCx p s m args meth c w own cc nL ret) {y : MethodName} {bytes : ByteArray} {maxL n idx : Nat} {ret' : Option FieldType} {rm : Room} {ci N o : Nat} {T : u_T} {ty : Nat → FieldType} {As : List Value} (hM : zMt l w y bytes maxL ret' rm 2 (.ref (zA w o) :: As) f) (A : zCa y bytes maxL ret' rm R n) (L : Cond.methodLink own idx y ∈ zW) (I : Cond.instanceMethod y ∈ zW) (S : Cond.selects y.cls y y ∈ zW) (B : zCl ci N y.cls T ty) (ho : zKd o = (ci, N))
    (hn : As.length = n) (hlen : lv.length = nL) (hst : st0 = As.reverse ++ .ref (zA w o) :: st) (hroom : (st.map fun v => v.category).sum ≤ 8) (d : decode cc pc = .ok (.invokevirtual idx, 3)) (h : ∀ r M1, zOk 2 r → zRe p l e R s m args below meth c w rk (pc + 3) lv (.int r :: st) M1 (g r M1)) : zRe p l e R s m args below meth c w rk pc lv st0 M (zBd (f M) g) :=
  re_callV X hM A L I S B ho hn hlen hst hroom d h
theorem re_callVs (X : zCx p s m args meth c w own cc nL ret) {y : MethodName} {bytes : ByteArray} {maxL n idx : Nat} {ret' : Option FieldType} {rm : Room} {ci N o : Nat} {T : u_T} {ty : Nat → FieldType} {As : List Value} (hM : zMt l w y bytes maxL ret' rm 3 (.ref (zA w o) :: As) f) (A : zCa y bytes maxL ret' rm R n) (L : Cond.methodLink own idx y ∈ zW) (I : Cond.instanceMethod y ∈ zW) (S : Cond.selects y.cls y y ∈ zW) (B : zCl ci N y.cls T ty) (ho : zKd o = (ci, N))
    (hn : As.length = n) (hlen : lv.length = nL) (hst : st0 = As.reverse ++ .ref (zA w o) :: st) (hroom : (st.map fun v => v.category).sum ≤ 8) (d : decode cc pc = .ok (.invokevirtual idx, 3)) (h : ∀ r M1, zOk 3 r → zRe p l e R s m args below meth c w rk (pc + 3) lv (.ref (zK w (zIx r)) :: st) M1 (g r M1)) : zRe p l e R s m args below meth c w rk pc lv st0 M (zBd (f M) g) :=
  re_callV X hM A L I S B ho hn hlen hst hroom d h
theorem re_callSv (X : zCx p s m args meth c w own cc nL ret) {y : MethodName} {bytes : ByteArray} {maxL n idx : Nat} {ret' : Option FieldType} {rm : Room} {As : List Value} (hM : zMt l w y bytes maxL ret' rm 0 As f) (A : zCa y bytes maxL ret' rm R n) (L : Cond.methodLink own idx y ∈ zW) (I : Cond.static y ∈ zW)
    (hn : As.length = n) (hlen : lv.length = nL) (hst : st0 = As.reverse ++ st) (hroom : (st.map fun v => v.category).sum ≤ 8) (d : decode cc pc = .ok (.invokestatic idx, 3)) (h : ∀ r M1, zOk 0 r → zRe p l e R s m args below meth c w rk (pc + 3) lv st M1 (g r M1)) : zRe p l e R s m args below meth c w rk pc lv st0 M (zBd (f M) g) :=
  re_callS X hM A L I hn hlen hst hroom d h
theorem re_callSi (X : zCx p s m args meth c w own cc nL ret) {y : MethodName} {bytes : ByteArray} {maxL n idx : Nat} {ret' : Option FieldType} {rm : Room} {As : List Value} (hM : zMt l w y bytes maxL ret' rm 1 As f) (A : zCa y bytes maxL ret' rm R n) (L : Cond.methodLink own idx y ∈ zW) (I : Cond.static y ∈ zW)
    (hn : As.length = n) (hlen : lv.length = nL) (hst : st0 = As.reverse ++ st) (hroom : (st.map fun v => v.category).sum ≤ 8) (d : decode cc pc = .ok (.invokestatic idx, 3)) (h : ∀ r M1, zOk 1 r → zRe p l e R s m args below meth c w rk (pc + 3) lv (.int r :: st) M1 (g r M1)) : zRe p l e R s m args below meth c w rk pc lv st0 M (zBd (f M) g) :=
  re_callS X hM A L I hn hlen hst hroom d h
theorem re_callSz (X : zCx p s m args meth c w own cc nL ret) {y : MethodName} {bytes : ByteArray} {maxL n idx : Nat} {ret' : Option FieldType} {rm : Room} {As : List Value} (hM : zMt l w y bytes maxL ret' rm 2 As f) (A : zCa y bytes maxL ret' rm R n) (L : Cond.methodLink own idx y ∈ zW) (I : Cond.static y ∈ zW)
    (hn : As.length = n) (hlen : lv.length = nL) (hst : st0 = As.reverse ++ st) (hroom : (st.map fun v => v.category).sum ≤ 8) (d : decode cc pc = .ok (.invokestatic idx, 3)) (h : ∀ r M1, zOk 2 r → zRe p l e R s m args below meth c w rk (pc + 3) lv (.int r :: st) M1 (g r M1)) : zRe p l e R s m args below meth c w rk pc lv st0 M (zBd (f M) g) :=
  re_callS X hM A L I hn hlen hst hroom d h
theorem re_callSs (X : zCx p s m args meth c w own cc nL ret) {y : MethodName} {bytes : ByteArray} {maxL n idx : Nat} {ret' : Option FieldType} {rm : Room} {As : List Value} (hM : zMt l w y bytes maxL ret' rm 3 As f) (A : zCa y bytes maxL ret' rm R n) (L : Cond.methodLink own idx y ∈ zW) (I : Cond.static y ∈ zW)
    (hn : As.length = n) (hlen : lv.length = nL) (hst : st0 = As.reverse ++ st) (hroom : (st.map fun v => v.category).sum ≤ 8) (d : decode cc pc = .ok (.invokestatic idx, 3)) (h : ∀ r M1, zOk 3 r → zRe p l e R s m args below meth c w rk (pc + 3) lv (.ref (zK w (zIx r)) :: st) M1 (g r M1)) : zRe p l e R s m args below meth c w rk pc lv st0 M (zBd (f M) g) :=
  re_callS X hM A L I hn hlen hst hroom d h
theorem re_callNv (X : zCx p s m args meth c w own cc nL ret) {y : MethodName} {bytes : ByteArray} {maxL n idx : Nat} {ret' : Option FieldType} {rm : Room} {As : List Value} {host : String} (hM : zMt l w y bytes maxL ret' rm 0 As f) (A : zCa y bytes maxL ret' rm R n) (L : (own, idx, y, host) ∈ zNw) (I : Cond.static y ∈ zW)
    (hn : As.length = n) (hlen : lv.length = nL) (hst : st0 = As.reverse ++ st) (hroom : (st.map fun v => v.category).sum ≤ 8) (d : decode cc pc = .ok (.invokestatic idx, 3)) (h : ∀ r M1, zOk 0 r → zRe p l e R s m args below meth c w rk (pc + 3) lv st M1 (g r M1)) : zRe p l e R s m args below meth c w rk pc lv st0 M (zBd (f M) g) :=
  re_callN X hM A L I hn hlen hst hroom d h
theorem re_callNi (X : zCx p s m args meth c w own cc nL ret) {y : MethodName} {bytes : ByteArray} {maxL n idx : Nat} {ret' : Option FieldType} {rm : Room} {As : List Value} {host : String} (hM : zMt l w y bytes maxL ret' rm 1 As f) (A : zCa y bytes maxL ret' rm R n) (L : (own, idx, y, host) ∈ zNw) (I : Cond.static y ∈ zW)
    (hn : As.length = n) (hlen : lv.length = nL) (hst : st0 = As.reverse ++ st) (hroom : (st.map fun v => v.category).sum ≤ 8) (d : decode cc pc = .ok (.invokestatic idx, 3)) (h : ∀ r M1, zOk 1 r → zRe p l e R s m args below meth c w rk (pc + 3) lv (.int r :: st) M1 (g r M1)) : zRe p l e R s m args below meth c w rk pc lv st0 M (zBd (f M) g) :=
  re_callN X hM A L I hn hlen hst hroom d h
theorem re_callNz (X : zCx p s m args meth c w own cc nL ret) {y : MethodName} {bytes : ByteArray} {maxL n idx : Nat} {ret' : Option FieldType} {rm : Room} {As : List Value} {host : String} (hM : zMt l w y bytes maxL ret' rm 2 As f) (A : zCa y bytes maxL ret' rm R n) (L : (own, idx, y, host) ∈ zNw) (I : Cond.static y ∈ zW)
    (hn : As.length = n) (hlen : lv.length = nL) (hst : st0 = As.reverse ++ st) (hroom : (st.map fun v => v.category).sum ≤ 8) (d : decode cc pc = .ok (.invokestatic idx, 3)) (h : ∀ r M1, zOk 2 r → zRe p l e R s m args below meth c w rk (pc + 3) lv (.int r :: st) M1 (g r M1)) : zRe p l e R s m args below meth c w rk pc lv st0 M (zBd (f M) g) :=
  re_callN X hM A L I hn hlen hst hroom d h
theorem re_callNs (X : zCx p s m args meth c w own cc nL ret) {y : MethodName} {bytes : ByteArray} {maxL n idx : Nat} {ret' : Option FieldType} {rm : Room} {As : List Value} {host : String} (hM : zMt l w y bytes maxL ret' rm 3 As f) (A : zCa y bytes maxL ret' rm R n) (L : (own, idx, y, host) ∈ zNw) (I : Cond.static y ∈ zW)
    (hn : As.length = n) (hlen : lv.length = nL) (hst : st0 = As.reverse ++ st) (hroom : (st.map fun v => v.category).sum ≤ 8) (d : decode cc pc = .ok (.invokestatic idx, 3)) (h : ∀ r M1, zOk 3 r → zRe p l e R s m args below meth c w rk (pc + 3) lv (.ref (zK w (zIx r)) :: st) M1 (g r M1)) : zRe p l e R s m args below meth c w rk pc lv st0 M (zBd (f M) g) :=
  re_callN X hM A L I hn hlen hst hroom d h
/-! text constants -/
theorem re_ldcS (X : zCx p s m args meth c w own cc nL ret) {i k : Nat} {tx : String} (hc : (own, i, tx, k) ∈ zSt) (d : decode cc pc = .ok (.ldc i, 2)) (h : zRe p l e R s m args below meth c w rk (pc + 2) lv (.ref (zK w k) :: st) M t) : zRe p l e R s m args below meth c w rk pc lv st M t :=
  fun r M' ht H locs ls hR hS hL => va_ldcS X.1 X.2.1 X.2.2.2.1 (X.2.2.2.2.2.2.2.2.2.2.2.1 _ hc) d (h r M' ht H locs ls hR hS hL)
theorem re_sret (X : zCx p s m args meth c w own cc nL (some (.object "java/lang/String"))) {k : Nat} {x : Int32} (hx : zIx x = k) (hk : k < zNS) (d : decode cc pc = .ok (.areturn, 1)) : zRe p l e R s m args below meth c w 3 pc lv [.ref (zK w k)] M (some (x, M)) := by
  intro r M' ht H locs ls hR hS hL
  cases ht
  subst hx
  have hlocks := X.2.2.2.2.2.1
  exact W.aret X.1 X.2.1 X.2.2.2.2.2.2.1 (Or.inl ⟨_, rfl⟩) (Or.inr ⟨_, rfl⟩) (fun t ht hW => ⟨rfl, hk, by rw [ht]; exact hR, hS.F ht⟩) hS.2.2 d
/-! switches -/
theorem re_sw_in (X : zCx p s m args meth c w own cc nL ret) {dflt lo hi off : Int} {offs : Array Int} {len tgt : Nat} {x v : Int32} (d : decode cc pc = .ok (.tableswitch dflt lo hi offs, len)) (hx : x = v) (h1 : ¬ v.toInt < lo) (h2 : ¬ hi < v.toInt) (ho : offs[(v.toInt - lo).toNat]? = some off) (hg : (pc : Int) + off = (tgt : Int)) (h : zRe p l e R s m args below meth c w rk tgt lv st M t) : zRe p l e R s m args below meth c w rk pc lv (.int x :: st) M t := by
  subst hx
  exact fun r M' ht H locs ls hR hS hL => lv_tableIn X.1 X.2.1 d h1 h2 ho hg (h r M' ht H locs ls hR hS hL)
theorem re_sw_out (X : zCx p s m args meth c w own cc nL ret) {dflt lo hi : Int} {offs : Array Int} {len tgt : Nat} {x : Int32} (d : decode cc pc = .ok (.tableswitch dflt lo hi offs, len)) (hx : x.toInt < lo ∨ hi < x.toInt) (hg : (pc : Int) + dflt = (tgt : Int)) (h : zRe p l e R s m args below meth c w rk tgt lv st M t) : zRe p l e R s m args below meth c w rk pc lv (.int x :: st) M t :=
  fun r M' ht H locs ls hR hS hL => lv_tableOut X.1 X.2.1 d hx hg (h r M' ht H locs ls hR hS hL)
theorem re_lsw (X : zCx p s m args meth c w own cc nL ret) {dflt off : Int} {ps : Array (Int × Int)} {len tgt : Nat} {x : Int32} (d : decode cc pc = .ok (.lookupswitch dflt ps, len)) (hp : (ps.toList.zip (ps.toList.drop 1)).all (fun (a, next) => a.1 < next.1) = true) (ho : Op.lookupswitch.offset ps.toList dflt x.toInt = off) (hg : (pc : Int) + off = (tgt : Int)) (h : zRe p l e R s m args below meth c w rk tgt lv st M t) : zRe p l e R s m args below meth c w rk pc lv (.int x :: st) M t :=
  fun r M' ht H locs ls hR hS hL => lv_lookup X.1 X.2.1 d hp ho hg (h r M' ht H locs ls hR hS hL)
theorem zIx_lt {i : Int32} {n : Nat} (h : zIn i n) : zIx i < n := by
  have := zIn_vp h
  simp only [vp_in, not_or, Nat.not_le] at this
  exact this.2
/-- how often a loop may go round -/
def zFu : Nat := 2000
theorem re_if {q : Prop} [Decidable q] (h1 : q → zRe p l e R s m args below meth c w rk pc lv st M t) (h2 : ¬ q → zRe p l e R s m args below meth c w rk pc lv st M u) : zRe p l e R s m args below meth c w rk pc lv st M (if q then t else u) := by
  by_cases hq : q
  · rw [if_pos hq]; exact h1 hq
  · rw [if_neg hq]; exact h2 hq
end ZR3
theorem cl_0 : zCl 0 8 RX0 TX0 tyX0 := ⟨rfl, by omega, tyX0_ok, nmX0, inX0⟩
theorem cl_1 : zCl 1 4 RX1 TX1 tyX1 := ⟨rfl, by omega, tyX1_ok, nmX1, inX1⟩
theorem cl_2 : zCl 2 6 RX2 TX2 tyX2 := ⟨rfl, by omega, tyX2_ok, nmX2, inX2⟩
theorem cl_3 : zCl 3 9 RX3 TX3 tyX3 := ⟨rfl, by omega, tyX3_ok, nmX3, inX3⟩
theorem cl_4 : zCl 4 6 RX4 TX4 tyX4 := ⟨rfl, by omega, tyX4_ok, nmX4, inX4⟩
theorem cl_5 : zCl 5 5 RX5 TX5 tyX5 := ⟨rfl, by omega, tyX5_ok, nmX5, inX5⟩
theorem cl_6 : zCl 6 8 RX6 TX6 tyX6 := ⟨rfl, by omega, tyX6_ok, nmX6, inX6⟩
theorem cl_7 : zCl 7 16 RX7 TX7 tyX7 := ⟨rfl, by omega, tyX7_ok, nmX7, inX7⟩
theorem cl_8 : zCl 8 2 RX8 TX8 tyX8 := ⟨rfl, by omega, tyX8_ok, nmX8, inX8⟩
theorem cl_9 : zCl 9 10 RX9 TX9 tyX9 := ⟨rfl, by omega, tyX9_ok, nmX9, inX9⟩
theorem cl_10 : zCl 10 61 RX10 TX10 tyX10 := ⟨rfl, by omega, tyX10_ok, nmX10, inX10⟩
end
section
theorem kd_0 : zKd 0 = (9, 10) := by decide +kernel
theorem kd_1 : zKd 1 = (8, 2) := by decide +kernel
theorem kd_2 : zKd 2 = (11, 600) := by decide +kernel
theorem kd_3 : zKd 3 = (6, 8) := by decide +kernel
theorem kd_4 : zKd 4 = (12, 8) := by decide +kernel
theorem kd_5 : zKd 5 = (12, 8) := by decide +kernel
theorem kd_6 : zKd 6 = (13, 8) := by decide +kernel
theorem kd_7 : zKd 7 = (13, 8) := by decide +kernel
theorem kd_8 : zKd 8 = (6, 8) := by decide +kernel
theorem kd_9 : zKd 9 = (12, 8) := by decide +kernel
theorem kd_10 : zKd 10 = (12, 8) := by decide +kernel
theorem kd_11 : zKd 11 = (13, 8) := by decide +kernel
theorem kd_12 : zKd 12 = (13, 8) := by decide +kernel
theorem kd_13 : zKd 13 = (5, 5) := by decide +kernel
theorem kd_14 : zKd 14 = (12, 24) := by decide +kernel
theorem kd_15 : zKd 15 = (2, 6) := by decide +kernel
theorem kd_16 : zKd 16 = (12, 300) := by decide +kernel
theorem kd_17 : zKd 17 = (12, 300) := by decide +kernel
theorem kd_18 : zKd 18 = (12, 300) := by decide +kernel
theorem kd_19 : zKd 19 = (12, 300) := by decide +kernel
theorem kd_20 : zKd 20 = (12, 300) := by decide +kernel
theorem kd_21 : zKd 21 = (7, 16) := by decide +kernel
theorem kd_22 : zKd 22 = (0, 8) := by decide +kernel
theorem kd_23 : zKd 23 = (12, 24) := by decide +kernel
theorem kd_24 : zKd 24 = (12, 24) := by decide +kernel
theorem kd_25 : zKd 25 = (3, 9) := by decide +kernel
theorem kd_26 : zKd 26 = (12, 8) := by decide +kernel
theorem kd_27 : zKd 27 = (12, 8) := by decide +kernel
theorem kd_28 : zKd 28 = (12, 8) := by decide +kernel
theorem kd_29 : zKd 29 = (12, 8) := by decide +kernel
theorem kd_30 : zKd 30 = (12, 8) := by decide +kernel
theorem kd_31 : zKd 31 = (13, 8) := by decide +kernel
theorem kd_32 : zKd 32 = (13, 8) := by decide +kernel
theorem kd_33 : zKd 33 = (4, 6) := by decide +kernel
theorem kd_34 : zKd 34 = (12, 320) := by decide +kernel
theorem kd_35 : zKd 35 = (12, 320) := by decide +kernel
theorem kd_36 : zKd 36 = (12, 320) := by decide +kernel
theorem kd_37 : zKd 37 = (12, 300) := by decide +kernel
theorem kd_38 : zKd 38 = (12, 300) := by decide +kernel
theorem kd_39 : zKd 39 = (13, 300) := by decide +kernel
theorem kd_40 : zKd 40 = (13, 300) := by decide +kernel
theorem kd_41 : zKd 41 = (7, 16) := by decide +kernel
theorem kd_42 : zKd 42 = (0, 8) := by decide +kernel
theorem kd_43 : zKd 43 = (12, 24) := by decide +kernel
theorem kd_44 : zKd 44 = (12, 24) := by decide +kernel
theorem kd_45 : zKd 45 = (3, 9) := by decide +kernel
theorem kd_46 : zKd 46 = (12, 8) := by decide +kernel
theorem kd_47 : zKd 47 = (12, 8) := by decide +kernel
theorem kd_48 : zKd 48 = (12, 8) := by decide +kernel
theorem kd_49 : zKd 49 = (12, 8) := by decide +kernel
theorem kd_50 : zKd 50 = (12, 8) := by decide +kernel
theorem kd_51 : zKd 51 = (13, 8) := by decide +kernel
theorem kd_52 : zKd 52 = (13, 8) := by decide +kernel
theorem kd_53 : zKd 53 = (4, 6) := by decide +kernel
theorem kd_54 : zKd 54 = (12, 320) := by decide +kernel
theorem kd_55 : zKd 55 = (12, 320) := by decide +kernel
theorem kd_56 : zKd 56 = (12, 320) := by decide +kernel
theorem kd_57 : zKd 57 = (12, 300) := by decide +kernel
theorem kd_58 : zKd 58 = (12, 300) := by decide +kernel
theorem kd_59 : zKd 59 = (13, 300) := by decide +kernel
theorem kd_60 : zKd 60 = (13, 300) := by decide +kernel
theorem kd_61 : zKd 61 = (0, 8) := by decide +kernel
theorem kd_62 : zKd 62 = (12, 24) := by decide +kernel
theorem kd_63 : zKd 63 = (12, 24) := by decide +kernel
theorem kd_64 : zKd 64 = (1, 4) := by decide +kernel
theorem kd_65 : zKd 65 = (12, 6) := by decide +kernel
theorem kd_66 : zKd 66 = (19, 6) := by decide +kernel
theorem kd_67 : zKd 67 = (12, 24) := by decide +kernel
theorem kd_68 : zKd 68 = (12, 24) := by decide +kernel
theorem kd_69 : zKd 69 = (12, 24) := by decide +kernel
theorem kd_70 : zKd 70 = (12, 24) := by decide +kernel
theorem kd_71 : zKd 71 = (12, 24) := by decide +kernel
theorem kd_72 : zKd 72 = (12, 24) := by decide +kernel
theorem kd_73 : zKd 73 = (12, 24) := by decide +kernel
theorem kd_74 : zKd 74 = (10, 61) := by decide +kernel
theorem kd_75 : zKd 75 = (11, 600) := by decide +kernel
theorem kd_76 : zKd 76 = (13, 12) := by decide +kernel
theorem kd_77 : zKd 77 = (14, 2) := by decide +kernel
theorem kd_78 : zKd 78 = (12, 8) := by decide +kernel
theorem kd_79 : zKd 79 = (12, 8) := by decide +kernel
theorem kd_80 : zKd 80 = (14, 2) := by decide +kernel
theorem kd_81 : zKd 81 = (12, 8) := by decide +kernel
theorem kd_82 : zKd 82 = (12, 8) := by decide +kernel
theorem kd_83 : zKd 83 = (15, 2) := by decide +kernel
theorem kd_84 : zKd 84 = (13, 8) := by decide +kernel
theorem kd_85 : zKd 85 = (13, 8) := by decide +kernel
theorem kd_86 : zKd 86 = (15, 2) := by decide +kernel
theorem kd_87 : zKd 87 = (13, 8) := by decide +kernel
theorem kd_88 : zKd 88 = (13, 8) := by decide +kernel
theorem kd_89 : zKd 89 = (12, 2) := by decide +kernel
theorem kd_90 : zKd 90 = (12, 2) := by decide +kernel
theorem kd_91 : zKd 91 = (13, 2) := by decide +kernel
theorem kd_92 : zKd 92 = (13, 2) := by decide +kernel
theorem kd_93 : zKd 93 = (12, 24) := by decide +kernel
theorem kd_94 : zKd 94 = (12, 300) := by decide +kernel
theorem kd_95 : zKd 95 = (12, 300) := by decide +kernel
theorem kd_96 : zKd 96 = (12, 300) := by decide +kernel
theorem kd_97 : zKd 97 = (12, 300) := by decide +kernel
theorem kd_98 : zKd 98 = (12, 300) := by decide +kernel
theorem kd_99 : zKd 99 = (16, 2) := by decide +kernel
theorem kd_100 : zKd 100 = (12, 300) := by decide +kernel
theorem kd_101 : zKd 101 = (12, 300) := by decide +kernel
theorem kd_102 : zKd 102 = (16, 2) := by decide +kernel
theorem kd_103 : zKd 103 = (12, 300) := by decide +kernel
theorem kd_104 : zKd 104 = (12, 300) := by decide +kernel
theorem kd_105 : zKd 105 = (17, 2) := by decide +kernel
theorem kd_106 : zKd 106 = (13, 300) := by decide +kernel
theorem kd_107 : zKd 107 = (13, 300) := by decide +kernel
theorem kd_108 : zKd 108 = (13, 24) := by decide +kernel
theorem kd_109 : zKd 109 = (12, 24) := by decide +kernel
theorem kd_110 : zKd 110 = (12, 24) := by decide +kernel
theorem kd_111 : zKd 111 = (12, 12) := by decide +kernel
theorem kd_112 : zKd 112 = (12, 12) := by decide +kernel
theorem kd_113 : zKd 113 = (12, 12) := by decide +kernel
theorem kd_114 : zKd 114 = (12, 12) := by decide +kernel
theorem kd_115 : zKd 115 = (12, 12) := by decide +kernel
theorem kd_116 : zKd 116 = (13, 12) := by decide +kernel
theorem kd_117 : zKd 117 = (13, 12) := by decide +kernel
theorem kd_118 : zKd 118 = (13, 300) := by decide +kernel
theorem kd_119 : zKd 119 = (12, 60) := by decide +kernel
theorem kd_120 : zKd 120 = (12, 60) := by decide +kernel
theorem kd_121 : zKd 121 = (12, 400) := by decide +kernel
theorem kd_122 : zKd 122 = (12, 24) := by decide +kernel
theorem kd_123 : zKd 123 = (12, 24) := by decide +kernel
theorem kd_124 : zKd 124 = (12, 6) := by decide +kernel
theorem kd_125 : zKd 125 = (19, 6) := by decide +kernel
theorem kd_126 : zKd 126 = (12, 24) := by decide +kernel
theorem kd_127 : zKd 127 = (12, 24) := by decide +kernel
theorem kd_128 : zKd 128 = (12, 24) := by decide +kernel
theorem kd_129 : zKd 129 = (12, 24) := by decide +kernel
theorem kd_130 : zKd 130 = (12, 24) := by decide +kernel
theorem kd_131 : zKd 131 = (12, 24) := by decide +kernel
theorem kd_132 : zKd 132 = (20, 6) := by decide +kernel
theorem kd_133 : zKd 133 = (13, 24) := by decide +kernel
theorem kd_134 : zKd 134 = (13, 24) := by decide +kernel
theorem kd_135 : zKd 135 = (13, 24) := by decide +kernel
theorem kd_136 : zKd 136 = (13, 24) := by decide +kernel
theorem kd_137 : zKd 137 = (13, 24) := by decide +kernel
theorem kd_138 : zKd 138 = (13, 24) := by decide +kernel
theorem kd_139 : zKd 139 = (13, 24) := by decide +kernel
theorem kd_140 : zKd 140 = (18, 400) := by decide +kernel
theorem zR_0_0 {o : Nat} (h : zKd o = (0, 8)) : zRf o 0 = 3 :=
  (by decide +kernel : ∀ o, o < zNB → zKd o = (0, 8) → zRf o 0 = 3) o (zKd_nb h (by omega) (by omega)) h
theorem zR_0_1 {o : Nat} (h : zKd o = (0, 8)) : zRf o 1 = 14 :=
  (by decide +kernel : ∀ o, o < zNB → zKd o = (0, 8) → zRf o 1 = 14) o (zKd_nb h (by omega) (by omega)) h
theorem zR_0_2 {o : Nat} (h : zKd o = (0, 8)) : zRf o 2 = o + 1 :=
  (by decide +kernel : ∀ o, o < zNB → zKd o = (0, 8) → zRf o 2 = o + 1) o (zKd_nb h (by omega) (by omega)) h
theorem zQ_0_2 {o : Nat} (h : zKd o = (0, 8)) : zKd (o + 1) = (12, 24) :=
  (by decide +kernel : ∀ o, o < zNB → zKd o = (0, 8) → zKd (o + 1) = (12, 24)) o (zKd_nb h (by omega) (by omega)) h
theorem zR_0_3 {o : Nat} (h : zKd o = (0, 8)) : zRf o 3 = o + 2 :=
  (by decide +kernel : ∀ o, o < zNB → zKd o = (0, 8) → zRf o 3 = o + 2) o (zKd_nb h (by omega) (by omega)) h
theorem zQ_0_3 {o : Nat} (h : zKd o = (0, 8)) : zKd (o + 2) = (12, 24) :=
  (by decide +kernel : ∀ o, o < zNB → zKd o = (0, 8) → zKd (o + 2) = (12, 24)) o (zKd_nb h (by omega) (by omega)) h
theorem zR_1_0 (_ : zKd 64 = (1, 4)) : zRf 64 0 = 14 := by decide +kernel
theorem zR_1_1 (_ : zKd 64 = (1, 4)) : zRf 64 1 = 65 := by decide +kernel
theorem zR_1_2 (_ : zKd 64 = (1, 4)) : zRf 64 2 = 66 := by decide +kernel
theorem zR_1_3 (_ : zKd 64 = (1, 4)) : zRf 64 3 = 73 := by decide +kernel
theorem zR_2_0 (_ : zKd 15 = (2, 6)) : zRf 15 0 = 16 := by decide +kernel
theorem zR_2_1 (_ : zKd 15 = (2, 6)) : zRf 15 1 = 17 := by decide +kernel
theorem zR_2_2 (_ : zKd 15 = (2, 6)) : zRf 15 2 = 18 := by decide +kernel
theorem zR_2_3 (_ : zKd 15 = (2, 6)) : zRf 15 3 = 19 := by decide +kernel
theorem zR_2_4 (_ : zKd 15 = (2, 6)) : zRf 15 4 = 20 := by decide +kernel
theorem zR_3_0 {o : Nat} (h : zKd o = (3, 9)) : zRf o 0 = 3 :=
  (by decide +kernel : ∀ o, o < zNB → zKd o = (3, 9) → zRf o 0 = 3) o (zKd_nb h (by omega) (by omega)) h
theorem zR_3_1 {o : Nat} (h : zKd o = (3, 9)) : zRf o 1 = o + 1 :=
  (by decide +kernel : ∀ o, o < zNB → zKd o = (3, 9) → zRf o 1 = o + 1) o (zKd_nb h (by omega) (by omega)) h
theorem zQ_3_1 {o : Nat} (h : zKd o = (3, 9)) : zKd (o + 1) = (12, 8) :=
  (by decide +kernel : ∀ o, o < zNB → zKd o = (3, 9) → zKd (o + 1) = (12, 8)) o (zKd_nb h (by omega) (by omega)) h
theorem zR_3_2 {o : Nat} (h : zKd o = (3, 9)) : zRf o 2 = o + 2 :=
  (by decide +kernel : ∀ o, o < zNB → zKd o = (3, 9) → zRf o 2 = o + 2) o (zKd_nb h (by omega) (by omega)) h
theorem zQ_3_2 {o : Nat} (h : zKd o = (3, 9)) : zKd (o + 2) = (12, 8) :=
  (by decide +kernel : ∀ o, o < zNB → zKd o = (3, 9) → zKd (o + 2) = (12, 8)) o (zKd_nb h (by omega) (by omega)) h
theorem zR_3_3 {o : Nat} (h : zKd o = (3, 9)) : zRf o 3 = o + 3 :=
  (by decide +kernel : ∀ o, o < zNB → zKd o = (3, 9) → zRf o 3 = o + 3) o (zKd_nb h (by omega) (by omega)) h
theorem zQ_3_3 {o : Nat} (h : zKd o = (3, 9)) : zKd (o + 3) = (12, 8) :=
  (by decide +kernel : ∀ o, o < zNB → zKd o = (3, 9) → zKd (o + 3) = (12, 8)) o (zKd_nb h (by omega) (by omega)) h
theorem zR_3_4 {o : Nat} (h : zKd o = (3, 9)) : zRf o 4 = o + 4 :=
  (by decide +kernel : ∀ o, o < zNB → zKd o = (3, 9) → zRf o 4 = o + 4) o (zKd_nb h (by omega) (by omega)) h
theorem zQ_3_4 {o : Nat} (h : zKd o = (3, 9)) : zKd (o + 4) = (12, 8) :=
  (by decide +kernel : ∀ o, o < zNB → zKd o = (3, 9) → zKd (o + 4) = (12, 8)) o (zKd_nb h (by omega) (by omega)) h
theorem zR_3_5 {o : Nat} (h : zKd o = (3, 9)) : zRf o 5 = o + 5 :=
  (by decide +kernel : ∀ o, o < zNB → zKd o = (3, 9) → zRf o 5 = o + 5) o (zKd_nb h (by omega) (by omega)) h
theorem zQ_3_5 {o : Nat} (h : zKd o = (3, 9)) : zKd (o + 5) = (12, 8) :=
  (by decide +kernel : ∀ o, o < zNB → zKd o = (3, 9) → zKd (o + 5) = (12, 8)) o (zKd_nb h (by omega) (by omega)) h
theorem zR_3_6 {o : Nat} (h : zKd o = (3, 9)) : zRf o 6 = o + 6 :=
  (by decide +kernel : ∀ o, o < zNB → zKd o = (3, 9) → zRf o 6 = o + 6) o (zKd_nb h (by omega) (by omega)) h
theorem zQ_3_6 {o : Nat} (h : zKd o = (3, 9)) : zKd (o + 6) = (13, 8) :=
  (by decide +kernel : ∀ o, o < zNB → zKd o = (3, 9) → zKd (o + 6) = (13, 8)) o (zKd_nb h (by omega) (by omega)) h
theorem zR_3_7 {o : Nat} (h : zKd o = (3, 9)) : zRf o 7 = o + 7 :=
  (by decide +kernel : ∀ o, o < zNB → zKd o = (3, 9) → zRf o 7 = o + 7) o (zKd_nb h (by omega) (by omega)) h
theorem zQ_3_7 {o : Nat} (h : zKd o = (3, 9)) : zKd (o + 7) = (13, 8) :=
  (by decide +kernel : ∀ o, o < zNB → zKd o = (3, 9) → zKd (o + 7) = (13, 8)) o (zKd_nb h (by omega) (by omega)) h
theorem zR_4_0 {o : Nat} (h : zKd o = (4, 6)) : zRf o 0 = o + 1 :=
  (by decide +kernel : ∀ o, o < zNB → zKd o = (4, 6) → zRf o 0 = o + 1) o (zKd_nb h (by omega) (by omega)) h
theorem zQ_4_0 {o : Nat} (h : zKd o = (4, 6)) : zKd (o + 1) = (12, 320) :=
  (by decide +kernel : ∀ o, o < zNB → zKd o = (4, 6) → zKd (o + 1) = (12, 320)) o (zKd_nb h (by omega) (by omega)) h
theorem zR_4_1 {o : Nat} (h : zKd o = (4, 6)) : zRf o 1 = o + 2 :=
  (by decide +kernel : ∀ o, o < zNB → zKd o = (4, 6) → zRf o 1 = o + 2) o (zKd_nb h (by omega) (by omega)) h
theorem zQ_4_1 {o : Nat} (h : zKd o = (4, 6)) : zKd (o + 2) = (12, 320) :=
  (by decide +kernel : ∀ o, o < zNB → zKd o = (4, 6) → zKd (o + 2) = (12, 320)) o (zKd_nb h (by omega) (by omega)) h
theorem zR_4_2 {o : Nat} (h : zKd o = (4, 6)) : zRf o 2 = o + 3 :=
  (by decide +kernel : ∀ o, o < zNB → zKd o = (4, 6) → zRf o 2 = o + 3) o (zKd_nb h (by omega) (by omega)) h
theorem zQ_4_2 {o : Nat} (h : zKd o = (4, 6)) : zKd (o + 3) = (12, 320) :=
  (by decide +kernel : ∀ o, o < zNB → zKd o = (4, 6) → zKd (o + 3) = (12, 320)) o (zKd_nb h (by omega) (by omega)) h
theorem zR_5_0 (_ : zKd 13 = (5, 5)) : zRf 13 0 = 1 := by decide +kernel
theorem zR_5_1 (_ : zKd 13 = (5, 5)) : zRf 13 1 = 8 := by decide +kernel
theorem zR_6_0 {o : Nat} (h : zKd o = (6, 8)) : zRf o 0 = o + 1 :=
  (by decide +kernel : ∀ o, o < zNB → zKd o = (6, 8) → zRf o 0 = o + 1) o (zKd_nb h (by omega) (by omega)) h
theorem zQ_6_0 {o : Nat} (h : zKd o = (6, 8)) : zKd (o + 1) = (12, 8) :=
  (by decide +kernel : ∀ o, o < zNB → zKd o = (6, 8) → zKd (o + 1) = (12, 8)) o (zKd_nb h (by omega) (by omega)) h
theorem zR_6_1 {o : Nat} (h : zKd o = (6, 8)) : zRf o 1 = o + 2 :=
  (by decide +kernel : ∀ o, o < zNB → zKd o = (6, 8) → zRf o 1 = o + 2) o (zKd_nb h (by omega) (by omega)) h
theorem zQ_6_1 {o : Nat} (h : zKd o = (6, 8)) : zKd (o + 2) = (12, 8) :=
  (by decide +kernel : ∀ o, o < zNB → zKd o = (6, 8) → zKd (o + 2) = (12, 8)) o (zKd_nb h (by omega) (by omega)) h
theorem zR_6_2 {o : Nat} (h : zKd o = (6, 8)) : zRf o 2 = o + 3 :=
  (by decide +kernel : ∀ o, o < zNB → zKd o = (6, 8) → zRf o 2 = o + 3) o (zKd_nb h (by omega) (by omega)) h
theorem zQ_6_2 {o : Nat} (h : zKd o = (6, 8)) : zKd (o + 3) = (13, 8) :=
  (by decide +kernel : ∀ o, o < zNB → zKd o = (6, 8) → zKd (o + 3) = (13, 8)) o (zKd_nb h (by omega) (by omega)) h
theorem zR_6_3 {o : Nat} (h : zKd o = (6, 8)) : zRf o 3 = o + 4 :=
  (by decide +kernel : ∀ o, o < zNB → zKd o = (6, 8) → zRf o 3 = o + 4) o (zKd_nb h (by omega) (by omega)) h
theorem zQ_6_3 {o : Nat} (h : zKd o = (6, 8)) : zKd (o + 4) = (13, 8) :=
  (by decide +kernel : ∀ o, o < zNB → zKd o = (6, 8) → zKd (o + 4) = (13, 8)) o (zKd_nb h (by omega) (by omega)) h
theorem zR_7_0 {o : Nat} (h : zKd o = (7, 16)) : zRf o 0 = 3 :=
  (by decide +kernel : ∀ o, o < zNB → zKd o = (7, 16) → zRf o 0 = 3) o (zKd_nb h (by omega) (by omega)) h
theorem zR_7_1 {o : Nat} (h : zKd o = (7, 16)) : zRf o 1 = 15 :=
  (by decide +kernel : ∀ o, o < zNB → zKd o = (7, 16) → zRf o 1 = 15) o (zKd_nb h (by omega) (by omega)) h
theorem zR_7_2 {o : Nat} (h : zKd o = (7, 16)) : zRf o 2 = o + 1 :=
  (by decide +kernel : ∀ o, o < zNB → zKd o = (7, 16) → zRf o 2 = o + 1) o (zKd_nb h (by omega) (by omega)) h
theorem zQ_7_2 {o : Nat} (h : zKd o = (7, 16)) : zKd (o + 1) = (0, 8) :=
  (by decide +kernel : ∀ o, o < zNB → zKd o = (7, 16) → zKd (o + 1) = (0, 8)) o (zKd_nb h (by omega) (by omega)) h
theorem zR_7_3 {o : Nat} (h : zKd o = (7, 16)) : zRf o 3 = o + 4 :=
  (by decide +kernel : ∀ o, o < zNB → zKd o = (7, 16) → zRf o 3 = o + 4) o (zKd_nb h (by omega) (by omega)) h
theorem zQ_7_3 {o : Nat} (h : zKd o = (7, 16)) : zKd (o + 4) = (3, 9) :=
  (by decide +kernel : ∀ o, o < zNB → zKd o = (7, 16) → zKd (o + 4) = (3, 9)) o (zKd_nb h (by omega) (by omega)) h
theorem zR_7_4 {o : Nat} (h : zKd o = (7, 16)) : zRf o 4 = o + 12 :=
  (by decide +kernel : ∀ o, o < zNB → zKd o = (7, 16) → zRf o 4 = o + 12) o (zKd_nb h (by omega) (by omega)) h
theorem zQ_7_4 {o : Nat} (h : zKd o = (7, 16)) : zKd (o + 12) = (4, 6) :=
  (by decide +kernel : ∀ o, o < zNB → zKd o = (7, 16) → zKd (o + 12) = (4, 6)) o (zKd_nb h (by omega) (by omega)) h
theorem zR_7_5 {o : Nat} (h : zKd o = (7, 16)) : zRf o 5 = o + 16 :=
  (by decide +kernel : ∀ o, o < zNB → zKd o = (7, 16) → zRf o 5 = o + 16) o (zKd_nb h (by omega) (by omega)) h
theorem zQ_7_5 {o : Nat} (h : zKd o = (7, 16)) : zKd (o + 16) = (12, 300) :=
  (by decide +kernel : ∀ o, o < zNB → zKd o = (7, 16) → zKd (o + 16) = (12, 300)) o (zKd_nb h (by omega) (by omega)) h
theorem zR_7_6 {o : Nat} (h : zKd o = (7, 16)) : zRf o 6 = o + 17 :=
  (by decide +kernel : ∀ o, o < zNB → zKd o = (7, 16) → zRf o 6 = o + 17) o (zKd_nb h (by omega) (by omega)) h
theorem zQ_7_6 {o : Nat} (h : zKd o = (7, 16)) : zKd (o + 17) = (12, 300) :=
  (by decide +kernel : ∀ o, o < zNB → zKd o = (7, 16) → zKd (o + 17) = (12, 300)) o (zKd_nb h (by omega) (by omega)) h
theorem zR_7_7 {o : Nat} (h : zKd o = (7, 16)) : zRf o 7 = o + 18 :=
  (by decide +kernel : ∀ o, o < zNB → zKd o = (7, 16) → zRf o 7 = o + 18) o (zKd_nb h (by omega) (by omega)) h
theorem zQ_7_7 {o : Nat} (h : zKd o = (7, 16)) : zKd (o + 18) = (13, 300) :=
  (by decide +kernel : ∀ o, o < zNB → zKd o = (7, 16) → zKd (o + 18) = (13, 300)) o (zKd_nb h (by omega) (by omega)) h
theorem zR_7_8 {o : Nat} (h : zKd o = (7, 16)) : zRf o 8 = o + 19 :=
  (by decide +kernel : ∀ o, o < zNB → zKd o = (7, 16) → zRf o 8 = o + 19) o (zKd_nb h (by omega) (by omega)) h
theorem zQ_7_8 {o : Nat} (h : zKd o = (7, 16)) : zKd (o + 19) = (13, 300) :=
  (by decide +kernel : ∀ o, o < zNB → zKd o = (7, 16) → zKd (o + 19) = (13, 300)) o (zKd_nb h (by omega) (by omega)) h
theorem zR_8_0 (_ : zKd 1 = (8, 2)) : zRf 1 0 = 2 := by decide +kernel
theorem zR_9_0 (_ : zKd 0 = (9, 10)) : zRf 0 0 = 1 := by decide +kernel
theorem zR_9_1 (_ : zKd 0 = (9, 10)) : zRf 0 1 = 3 := by decide +kernel
theorem zR_9_2 (_ : zKd 0 = (9, 10)) : zRf 0 2 = 8 := by decide +kernel
theorem zR_9_3 (_ : zKd 0 = (9, 10)) : zRf 0 3 = 13 := by decide +kernel
theorem zR_9_4 (_ : zKd 0 = (9, 10)) : zRf 0 4 = 14 := by decide +kernel
theorem zR_9_5 (_ : zKd 0 = (9, 10)) : zRf 0 5 = 15 := by decide +kernel
theorem zR_9_6 (_ : zKd 0 = (9, 10)) : zRf 0 6 = 21 := by decide +kernel
theorem zR_9_7 (_ : zKd 0 = (9, 10)) : zRf 0 7 = 41 := by decide +kernel
theorem zR_9_8 (_ : zKd 0 = (9, 10)) : zRf 0 8 = 61 := by decide +kernel
theorem zR_9_9 (_ : zKd 0 = (9, 10)) : zRf 0 9 = 64 := by decide +kernel
theorem zR_10_1 (_ : zKd 74 = (10, 61)) : zRf 74 1 = 75 := by decide +kernel
theorem zR_10_6 (_ : zKd 74 = (10, 61)) : zRf 74 6 = 76 := by decide +kernel
theorem zR_10_7 (_ : zKd 74 = (10, 61)) : zRf 74 7 = 77 := by decide +kernel
theorem zR_10_8 (_ : zKd 74 = (10, 61)) : zRf 74 8 = 80 := by decide +kernel
theorem zR_10_9 (_ : zKd 74 = (10, 61)) : zRf 74 9 = 83 := by decide +kernel
theorem zR_10_10 (_ : zKd 74 = (10, 61)) : zRf 74 10 = 86 := by decide +kernel
theorem zR_10_11 (_ : zKd 74 = (10, 61)) : zRf 74 11 = 89 := by decide +kernel
theorem zR_10_12 (_ : zKd 74 = (10, 61)) : zRf 74 12 = 90 := by decide +kernel
theorem zR_10_13 (_ : zKd 74 = (10, 61)) : zRf 74 13 = 91 := by decide +kernel
theorem zR_10_14 (_ : zKd 74 = (10, 61)) : zRf 74 14 = 92 := by decide +kernel
theorem zR_10_15 (_ : zKd 74 = (10, 61)) : zRf 74 15 = 93 := by decide +kernel
theorem zR_10_17 (_ : zKd 74 = (10, 61)) : zRf 74 17 = 94 := by decide +kernel
theorem zR_10_18 (_ : zKd 74 = (10, 61)) : zRf 74 18 = 95 := by decide +kernel
theorem zR_10_19 (_ : zKd 74 = (10, 61)) : zRf 74 19 = 96 := by decide +kernel
theorem zR_10_20 (_ : zKd 74 = (10, 61)) : zRf 74 20 = 97 := by decide +kernel
theorem zR_10_21 (_ : zKd 74 = (10, 61)) : zRf 74 21 = 98 := by decide +kernel
theorem zR_10_22 (_ : zKd 74 = (10, 61)) : zRf 74 22 = 99 := by decide +kernel
theorem zR_10_23 (_ : zKd 74 = (10, 61)) : zRf 74 23 = 102 := by decide +kernel
theorem zR_10_24 (_ : zKd 74 = (10, 61)) : zRf 74 24 = 105 := by decide +kernel
theorem zR_10_28 (_ : zKd 74 = (10, 61)) : zRf 74 28 = 108 := by decide +kernel
theorem zR_10_29 (_ : zKd 74 = (10, 61)) : zRf 74 29 = 109 := by decide +kernel
theorem zR_10_30 (_ : zKd 74 = (10, 61)) : zRf 74 30 = 110 := by decide +kernel
theorem zR_10_40 (_ : zKd 74 = (10, 61)) : zRf 74 40 = 111 := by decide +kernel
theorem zR_10_41 (_ : zKd 74 = (10, 61)) : zRf 74 41 = 112 := by decide +kernel
theorem zR_10_42 (_ : zKd 74 = (10, 61)) : zRf 74 42 = 113 := by decide +kernel
theorem zR_10_43 (_ : zKd 74 = (10, 61)) : zRf 74 43 = 114 := by decide +kernel
theorem zR_10_44 (_ : zKd 74 = (10, 61)) : zRf 74 44 = 115 := by decide +kernel
theorem zR_10_45 (_ : zKd 74 = (10, 61)) : zRf 74 45 = 116 := by decide +kernel
theorem zR_10_46 (_ : zKd 74 = (10, 61)) : zRf 74 46 = 117 := by decide +kernel
theorem zR_10_47 (_ : zKd 74 = (10, 61)) : zRf 74 47 = 118 := by decide +kernel
theorem zR_10_51 (_ : zKd 74 = (10, 61)) : zRf 74 51 = 119 := by decide +kernel
theorem zR_10_52 (_ : zKd 74 = (10, 61)) : zRf 74 52 = 120 := by decide +kernel
theorem zR_10_53 (_ : zKd 74 = (10, 61)) : zRf 74 53 = 121 := by decide +kernel
theorem zR_10_54 (_ : zKd 74 = (10, 61)) : zRf 74 54 = 140 := by decide +kernel
theorem zR_10_55 (_ : zKd 74 = (10, 61)) : zRf 74 55 = 122 := by decide +kernel
theorem zR_10_56 (_ : zKd 74 = (10, 61)) : zRf 74 56 = 123 := by decide +kernel
theorem zR_10_57 (_ : zKd 74 = (10, 61)) : zRf 74 57 = 124 := by decide +kernel
theorem zR_10_58 (_ : zKd 74 = (10, 61)) : zRf 74 58 = 125 := by decide +kernel
theorem zR_10_59 (_ : zKd 74 = (10, 61)) : zRf 74 59 = 132 := by decide +kernel
theorem zR_10_60 (_ : zKd 74 = (10, 61)) : zRf 74 60 = 139 := by decide +kernel
theorem rw_66 {i : Nat} (h : i < 6) : zRf 66 i = 67 + i :=
  (by decide +kernel : ∀ i, i < 6 → zRf 66 i = 67 + i) i h
theorem rk_66 {i : Nat} (h : i < 6) : zKd (67 + i) = (12, 24) :=
  (by decide +kernel : ∀ i, i < 6 → zKd (67 + i) = (12, 24)) i h
theorem rw_77 {i : Nat} (h : i < 2) : zRf 77 i = 78 + i :=
  (by decide +kernel : ∀ i, i < 2 → zRf 77 i = 78 + i) i h
theorem rk_77 {i : Nat} (h : i < 2) : zKd (78 + i) = (12, 8) :=
  (by decide +kernel : ∀ i, i < 2 → zKd (78 + i) = (12, 8)) i h
theorem rw_80 {i : Nat} (h : i < 2) : zRf 80 i = 81 + i :=
  (by decide +kernel : ∀ i, i < 2 → zRf 80 i = 81 + i) i h
theorem rk_80 {i : Nat} (h : i < 2) : zKd (81 + i) = (12, 8) :=
  (by decide +kernel : ∀ i, i < 2 → zKd (81 + i) = (12, 8)) i h
theorem rw_83 {i : Nat} (h : i < 2) : zRf 83 i = 84 + i :=
  (by decide +kernel : ∀ i, i < 2 → zRf 83 i = 84 + i) i h
theorem rk_83 {i : Nat} (h : i < 2) : zKd (84 + i) = (13, 8) :=
  (by decide +kernel : ∀ i, i < 2 → zKd (84 + i) = (13, 8)) i h
theorem rw_86 {i : Nat} (h : i < 2) : zRf 86 i = 87 + i :=
  (by decide +kernel : ∀ i, i < 2 → zRf 86 i = 87 + i) i h
theorem rk_86 {i : Nat} (h : i < 2) : zKd (87 + i) = (13, 8) :=
  (by decide +kernel : ∀ i, i < 2 → zKd (87 + i) = (13, 8)) i h
theorem rw_99 {i : Nat} (h : i < 2) : zRf 99 i = 100 + i :=
  (by decide +kernel : ∀ i, i < 2 → zRf 99 i = 100 + i) i h
theorem rk_99 {i : Nat} (h : i < 2) : zKd (100 + i) = (12, 300) :=
  (by decide +kernel : ∀ i, i < 2 → zKd (100 + i) = (12, 300)) i h
theorem rw_102 {i : Nat} (h : i < 2) : zRf 102 i = 103 + i :=
  (by decide +kernel : ∀ i, i < 2 → zRf 102 i = 103 + i) i h
theorem rk_102 {i : Nat} (h : i < 2) : zKd (103 + i) = (12, 300) :=
  (by decide +kernel : ∀ i, i < 2 → zKd (103 + i) = (12, 300)) i h
theorem rw_105 {i : Nat} (h : i < 2) : zRf 105 i = 106 + i :=
  (by decide +kernel : ∀ i, i < 2 → zRf 105 i = 106 + i) i h
theorem rk_105 {i : Nat} (h : i < 2) : zKd (106 + i) = (13, 300) :=
  (by decide +kernel : ∀ i, i < 2 → zKd (106 + i) = (13, 300)) i h
theorem rw_125 {i : Nat} (h : i < 6) : zRf 125 i = 126 + i :=
  (by decide +kernel : ∀ i, i < 6 → zRf 125 i = 126 + i) i h
theorem rk_125 {i : Nat} (h : i < 6) : zKd (126 + i) = (12, 24) :=
  (by decide +kernel : ∀ i, i < 6 → zKd (126 + i) = (12, 24)) i h
theorem rw_132 {i : Nat} (h : i < 6) : zRf 132 i = 133 + i :=
  (by decide +kernel : ∀ i, i < 6 → zRf 132 i = 133 + i) i h
theorem rk_132 {i : Nat} (h : i < 6) : zKd (133 + i) = (13, 24) :=
  (by decide +kernel : ∀ i, i < 6 → zKd (133 + i) = (13, 24)) i h
theorem rw_140 {i : Nat} (_ : i < 400) : zRf 140 i = 141 + i := rfl
theorem rk_140 {i : Nat} (h : i < 400) : zKd (141 + i) = (12, 60) := by
  rw [zKd, if_neg (by simp only [zNB]; omega), if_pos (by simp only [zNC]; omega)]
theorem zN_0 : (RX9, 11, yX8_init, RX9) ∈ zNw := List.mem_of_getElem? (i := 0) rfl
theorem zN_1 : (RX9, 41, yX2_init, RX9) ∈ zNw := List.mem_of_getElem? (i := 1) rfl
theorem zN_2 : (RX7, 53, yX4_init, RX9) ∈ zNw := List.mem_of_getElem? (i := 2) rfl
theorem zN_3 : (RX5, 103, yX9_isKind, RX9) ∈ zNw := List.mem_of_getElem? (i := 3) rfl
theorem zN_4 : (RX6, 42, yX9_isKind, RX9) ∈ zNw := List.mem_of_getElem? (i := 4) rfl
theorem zN_5 : (RX2, 31, yX9_isActNumber, RX9) ∈ zNw := List.mem_of_getElem? (i := 5) rfl
theorem zN_6 : (RX7, 96, yX9_isActNumber, RX9) ∈ zNw := List.mem_of_getElem? (i := 6) rfl
theorem zN_7 : (RX7, 141, yX9_isMember, RX9) ∈ zNw := List.mem_of_getElem? (i := 7) rfl
theorem zN_8 : (RX7, 168, yX9_isKind, RX9) ∈ zNw := List.mem_of_getElem? (i := 8) rfl
theorem zN_9 : (RX3, 52, yX9_isKind, RX9) ∈ zNw := List.mem_of_getElem? (i := 9) rfl
theorem zN_10 : (RX0, 59, yX9_isMember, RX9) ∈ zNw := List.mem_of_getElem? (i := 10) rfl
theorem zN_11 : (RX1, 26, yX9_isSchool, RX9) ∈ zNw := List.mem_of_getElem? (i := 11) rfl
theorem zN_12 : (RX1, 30, yX9_isMember, RX9) ∈ zNw := List.mem_of_getElem? (i := 12) rfl
end
