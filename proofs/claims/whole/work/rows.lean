section
-- ===== PART A: goes FIRST, ahead of the names: the tables' words, and 'selects' of the private methods out of them =====
/-- a private method of a class that the tables say can be made, by its rows of tables_1 -/
def lw_okq (q : MethodName × Nat) : Prop := (q.1.cls ≠ "java/lang/invoke/MethodHandle" ∧ q.1.cls ≠ "java/lang/invoke/VarHandle") ∧ Cond.instantiable q.1.cls q.2 ∈ tables_1 ∧ Cond.privateMethod q.1 ∈ tables_1 ∧ Cond.instanceMethod q.1 ∈ tables_1
theorem lw_p0 : lw_okq (⟨"DebateHouse$Session", "refusalAtLarge", "(I)I"⟩, 16) := ⟨⟨by decide +kernel, by decide +kernel⟩, List.mem_of_getElem? (i := 155) (by decide +kernel), List.mem_of_getElem? (i := 584) (by decide +kernel), List.mem_of_getElem? (i := 585) (by decide +kernel)⟩
theorem lw_p1 : lw_okq (⟨"DebateHouse$Session", "numbersAreAsTold", "(I)Z"⟩, 16) := ⟨⟨by decide +kernel, by decide +kernel⟩, List.mem_of_getElem? (i := 155) (by decide +kernel), List.mem_of_getElem? (i := 588) (by decide +kernel), List.mem_of_getElem? (i := 589) (by decide +kernel)⟩
theorem lw_p2 : lw_okq (⟨"DebateHouse$Session", "isThere", "(I)Z"⟩, 16) := ⟨⟨by decide +kernel, by decide +kernel⟩, List.mem_of_getElem? (i := 155) (by decide +kernel), List.mem_of_getElem? (i := 597) (by decide +kernel), List.mem_of_getElem? (i := 598) (by decide +kernel)⟩
theorem lw_p3 : lw_okq (⟨"DebateHouse$Session", "isInOrder", "(I)Z"⟩, 16) := ⟨⟨by decide +kernel, by decide +kernel⟩, List.mem_of_getElem? (i := 155) (by decide +kernel), List.mem_of_getElem? (i := 607) (by decide +kernel), List.mem_of_getElem? (i := 608) (by decide +kernel)⟩
theorem lw_p4 : lw_okq (⟨"DebateHouse$Session", "mayMove", "(I)Z"⟩, 16) := ⟨⟨by decide +kernel, by decide +kernel⟩, List.mem_of_getElem? (i := 155) (by decide +kernel), List.mem_of_getElem? (i := 623) (by decide +kernel), List.mem_of_getElem? (i := 624) (by decide +kernel)⟩
theorem lw_p5 : lw_okq (⟨"DebateHouse$Session", "mayAppeal", "()Z"⟩, 16) := ⟨⟨by decide +kernel, by decide +kernel⟩, List.mem_of_getElem? (i := 155) (by decide +kernel), List.mem_of_getElem? (i := 636) (by decide +kernel), List.mem_of_getElem? (i := 637) (by decide +kernel)⟩
theorem lw_p6 : lw_okq (⟨"DebateHouse$Session", "isWorked", "(I)Z"⟩, 16) := ⟨⟨by decide +kernel, by decide +kernel⟩, List.mem_of_getElem? (i := 155) (by decide +kernel), List.mem_of_getElem? (i := 640) (by decide +kernel), List.mem_of_getElem? (i := 641) (by decide +kernel)⟩
theorem lw_p7 : lw_okq (⟨"DebateHouse$Session", "mayMoveKind", "(II)Z"⟩, 16) := ⟨⟨by decide +kernel, by decide +kernel⟩, List.mem_of_getElem? (i := 155) (by decide +kernel), List.mem_of_getElem? (i := 656) (by decide +kernel), List.mem_of_getElem? (i := 657) (by decide +kernel)⟩
theorem lw_p8 : lw_okq (⟨"DebateHouse$Paper", "behind", "(I)I"⟩, 6) := ⟨⟨by decide +kernel, by decide +kernel⟩, List.mem_of_getElem? (i := 237) (by decide +kernel), List.mem_of_getElem? (i := 668) (by decide +kernel), List.mem_of_getElem? (i := 669) (by decide +kernel)⟩
theorem lw_p9 : lw_okq (⟨"DebateHouse$Session", "hasOther", "(II)Z"⟩, 16) := ⟨⟨by decide +kernel, by decide +kernel⟩, List.mem_of_getElem? (i := 155) (by decide +kernel), List.mem_of_getElem? (i := 681) (by decide +kernel), List.mem_of_getElem? (i := 682) (by decide +kernel)⟩
theorem lw_p10 : lw_okq (⟨"DebateHouse$Session", "perform", "(I)V"⟩, 16) := ⟨⟨by decide +kernel, by decide +kernel⟩, List.mem_of_getElem? (i := 155) (by decide +kernel), List.mem_of_getElem? (i := 685) (by decide +kernel), List.mem_of_getElem? (i := 686) (by decide +kernel)⟩
theorem lw_p11 : lw_okq (⟨"DebateHouse$Floor", "nextPlace", "()I"⟩, 8) := ⟨⟨by decide +kernel, by decide +kernel⟩, List.mem_of_getElem? (i := 161) (by decide +kernel), List.mem_of_getElem? (i := 705) (by decide +kernel), List.mem_of_getElem? (i := 706) (by decide +kernel)⟩
theorem lw_p12 : lw_okq (⟨"DebateHouse$Floor", "countedSpeeches", "(I)I"⟩, 8) := ⟨⟨by decide +kernel, by decide +kernel⟩, List.mem_of_getElem? (i := 161) (by decide +kernel), List.mem_of_getElem? (i := 709) (by decide +kernel), List.mem_of_getElem? (i := 710) (by decide +kernel)⟩
theorem lw_p13 : lw_okq (⟨"DebateHouse$Session", "letTicksGo", "(I)V"⟩, 16) := ⟨⟨by decide +kernel, by decide +kernel⟩, List.mem_of_getElem? (i := 155) (by decide +kernel), List.mem_of_getElem? (i := 718) (by decide +kernel), List.mem_of_getElem? (i := 719) (by decide +kernel)⟩
theorem lw_p14 : lw_okq (⟨"DebateHouse$Session", "decide", "(I)V"⟩, 16) := ⟨⟨by decide +kernel, by decide +kernel⟩, List.mem_of_getElem? (i := 155) (by decide +kernel), List.mem_of_getElem? (i := 743) (by decide +kernel), List.mem_of_getElem? (i := 744) (by decide +kernel)⟩
theorem lw_p15 : lw_okq (⟨"DebateHouse$Session", "isCarried", "(III)Z"⟩, 16) := ⟨⟨by decide +kernel, by decide +kernel⟩, List.mem_of_getElem? (i := 155) (by decide +kernel), List.mem_of_getElem? (i := 748) (by decide +kernel), List.mem_of_getElem? (i := 749) (by decide +kernel)⟩
def lw_privs_1 : List (MethodName × Nat) := [(⟨"DebateHouse$Session", "refusalAtLarge", "(I)I"⟩, 16), (⟨"DebateHouse$Session", "numbersAreAsTold", "(I)Z"⟩, 16), (⟨"DebateHouse$Session", "isThere", "(I)Z"⟩, 16), (⟨"DebateHouse$Session", "isInOrder", "(I)Z"⟩, 16), (⟨"DebateHouse$Session", "mayMove", "(I)Z"⟩, 16), (⟨"DebateHouse$Session", "mayAppeal", "()Z"⟩, 16), (⟨"DebateHouse$Session", "isWorked", "(I)Z"⟩, 16), (⟨"DebateHouse$Session", "mayMoveKind", "(II)Z"⟩, 16), (⟨"DebateHouse$Paper", "behind", "(I)I"⟩, 6), (⟨"DebateHouse$Session", "hasOther", "(II)Z"⟩, 16), (⟨"DebateHouse$Session", "perform", "(I)V"⟩, 16), (⟨"DebateHouse$Floor", "nextPlace", "()I"⟩, 8), (⟨"DebateHouse$Floor", "countedSpeeches", "(I)I"⟩, 8), (⟨"DebateHouse$Session", "letTicksGo", "(I)V"⟩, 16), (⟨"DebateHouse$Session", "decide", "(I)V"⟩, 16), (⟨"DebateHouse$Session", "isCarried", "(III)Z"⟩, 16)]
theorem lw_r1 : ∀ q ∈ lw_privs_1, lw_okq q := List.forall_mem_cons.mpr ⟨lw_p0, List.forall_mem_cons.mpr ⟨lw_p1, List.forall_mem_cons.mpr ⟨lw_p2, List.forall_mem_cons.mpr ⟨lw_p3, List.forall_mem_cons.mpr ⟨lw_p4, List.forall_mem_cons.mpr ⟨lw_p5, List.forall_mem_cons.mpr ⟨lw_p6, List.forall_mem_cons.mpr ⟨lw_p7, List.forall_mem_cons.mpr ⟨lw_p8, List.forall_mem_cons.mpr ⟨lw_p9, List.forall_mem_cons.mpr ⟨lw_p10, List.forall_mem_cons.mpr ⟨lw_p11, List.forall_mem_cons.mpr ⟨lw_p12, List.forall_mem_cons.mpr ⟨lw_p13, List.forall_mem_cons.mpr ⟨lw_p14, List.forall_mem_cons.mpr ⟨lw_p15, fun _ h => absurd h List.not_mem_nil⟩⟩⟩⟩⟩⟩⟩⟩⟩⟩⟩⟩⟩⟩⟩⟩
theorem lw_p16 : lw_okq (⟨"DebateHouse$Session", "settleAppeal", "(IZ)V"⟩, 16) := ⟨⟨by decide +kernel, by decide +kernel⟩, List.mem_of_getElem? (i := 155) (by decide +kernel), List.mem_of_getElem? (i := 752) (by decide +kernel), List.mem_of_getElem? (i := 753) (by decide +kernel)⟩
theorem lw_p17 : lw_okq (⟨"DebateHouse$Session", "carryOut", "(III)V"⟩, 16) := ⟨⟨by decide +kernel, by decide +kernel⟩, List.mem_of_getElem? (i := 155) (by decide +kernel), List.mem_of_getElem? (i := 756) (by decide +kernel), List.mem_of_getElem? (i := 757) (by decide +kernel)⟩
theorem lw_p18 : lw_okq (⟨"DebateHouse$Paper", "insert", "(II)V"⟩, 6) := ⟨⟨by decide +kernel, by decide +kernel⟩, List.mem_of_getElem? (i := 237) (by decide +kernel), List.mem_of_getElem? (i := 765) (by decide +kernel), List.mem_of_getElem? (i := 766) (by decide +kernel)⟩
theorem lw_p19 : lw_okq (⟨"DebateHouse$Paper", "addBehind", "(II)V"⟩, 6) := ⟨⟨by decide +kernel, by decide +kernel⟩, List.mem_of_getElem? (i := 237) (by decide +kernel), List.mem_of_getElem? (i := 773) (by decide +kernel), List.mem_of_getElem? (i := 774) (by decide +kernel)⟩
theorem lw_p20 : lw_okq (⟨"DebateHouse$Paper", "remove", "(I)V"⟩, 6) := ⟨⟨by decide +kernel, by decide +kernel⟩, List.mem_of_getElem? (i := 237) (by decide +kernel), List.mem_of_getElem? (i := 781) (by decide +kernel), List.mem_of_getElem? (i := 782) (by decide +kernel)⟩
theorem lw_p21 : lw_okq (⟨"DebateHouse$Jury", "counts", "(II)Z"⟩, 4) := ⟨⟨by decide +kernel, by decide +kernel⟩, List.mem_of_getElem? (i := 335) (by decide +kernel), List.mem_of_getElem? (i := 886) (by decide +kernel), List.mem_of_getElem? (i := 887) (by decide +kernel)⟩
theorem lw_p22 : lw_okq (⟨"DebateHouse$Jury", "scaled", "(II)I"⟩, 4) := ⟨⟨by decide +kernel, by decide +kernel⟩, List.mem_of_getElem? (i := 335) (by decide +kernel), List.mem_of_getElem? (i := 890) (by decide +kernel), List.mem_of_getElem? (i := 891) (by decide +kernel)⟩
theorem lw_p23 : lw_okq (⟨"DebateHouse$Jury", "countAheadOf", "(I)I"⟩, 4) := ⟨⟨by decide +kernel, by decide +kernel⟩, List.mem_of_getElem? (i := 335) (by decide +kernel), List.mem_of_getElem? (i := 907) (by decide +kernel), List.mem_of_getElem? (i := 908) (by decide +kernel)⟩
theorem lw_p24 : lw_okq (⟨"DebateHouseModel", "begin", "()V"⟩, 61) := ⟨⟨by decide +kernel, by decide +kernel⟩, List.mem_of_getElem? (i := 915) (by decide +kernel), List.mem_of_getElem? (i := 924) (by decide +kernel), List.mem_of_getElem? (i := 925) (by decide +kernel)⟩
theorem lw_p25 : lw_okq (⟨"DebateHouseModel", "put", "(I)V"⟩, 61) := ⟨⟨by decide +kernel, by decide +kernel⟩, List.mem_of_getElem? (i := 915) (by decide +kernel), List.mem_of_getElem? (i := 1115) (by decide +kernel), List.mem_of_getElem? (i := 1116) (by decide +kernel)⟩
theorem lw_p26 : lw_okq (⟨"DebateHouseModel", "isEnd", "()Z"⟩, 61) := ⟨⟨by decide +kernel, by decide +kernel⟩, List.mem_of_getElem? (i := 915) (by decide +kernel), List.mem_of_getElem? (i := 1127) (by decide +kernel), List.mem_of_getElem? (i := 1128) (by decide +kernel)⟩
theorem lw_p27 : lw_okq (⟨"DebateHouseModel", "clause", "()V"⟩, 61) := ⟨⟨by decide +kernel, by decide +kernel⟩, List.mem_of_getElem? (i := 915) (by decide +kernel), List.mem_of_getElem? (i := 1131) (by decide +kernel), List.mem_of_getElem? (i := 1132) (by decide +kernel)⟩
theorem lw_p28 : lw_okq (⟨"DebateHouseModel", "word", "()V"⟩, 61) := ⟨⟨by decide +kernel, by decide +kernel⟩, List.mem_of_getElem? (i := 915) (by decide +kernel), List.mem_of_getElem? (i := 1135) (by decide +kernel), List.mem_of_getElem? (i := 1136) (by decide +kernel)⟩
theorem lw_p29 : lw_okq (⟨"DebateHouseModel", "isLetter", "()Z"⟩, 61) := ⟨⟨by decide +kernel, by decide +kernel⟩, List.mem_of_getElem? (i := 915) (by decide +kernel), List.mem_of_getElem? (i := 1139) (by decide +kernel), List.mem_of_getElem? (i := 1140) (by decide +kernel)⟩
theorem lw_p30 : lw_okq (⟨"DebateHouseModel", "fails", "(II)V"⟩, 61) := ⟨⟨by decide +kernel, by decide +kernel⟩, List.mem_of_getElem? (i := 915) (by decide +kernel), List.mem_of_getElem? (i := 1143) (by decide +kernel), List.mem_of_getElem? (i := 1144) (by decide +kernel)⟩
theorem lw_p31 : lw_okq (⟨"DebateHouseModel", "is", "(Ljava/lang/String;)Z"⟩, 61) := ⟨⟨by decide +kernel, by decide +kernel⟩, List.mem_of_getElem? (i := 915) (by decide +kernel), List.mem_of_getElem? (i := 1148) (by decide +kernel), List.mem_of_getElem? (i := 1149) (by decide +kernel)⟩
def lw_privs_2 : List (MethodName × Nat) := [(⟨"DebateHouse$Session", "settleAppeal", "(IZ)V"⟩, 16), (⟨"DebateHouse$Session", "carryOut", "(III)V"⟩, 16), (⟨"DebateHouse$Paper", "insert", "(II)V"⟩, 6), (⟨"DebateHouse$Paper", "addBehind", "(II)V"⟩, 6), (⟨"DebateHouse$Paper", "remove", "(I)V"⟩, 6), (⟨"DebateHouse$Jury", "counts", "(II)Z"⟩, 4), (⟨"DebateHouse$Jury", "scaled", "(II)I"⟩, 4), (⟨"DebateHouse$Jury", "countAheadOf", "(I)I"⟩, 4), (⟨"DebateHouseModel", "begin", "()V"⟩, 61), (⟨"DebateHouseModel", "put", "(I)V"⟩, 61), (⟨"DebateHouseModel", "isEnd", "()Z"⟩, 61), (⟨"DebateHouseModel", "clause", "()V"⟩, 61), (⟨"DebateHouseModel", "word", "()V"⟩, 61), (⟨"DebateHouseModel", "isLetter", "()Z"⟩, 61), (⟨"DebateHouseModel", "fails", "(II)V"⟩, 61), (⟨"DebateHouseModel", "is", "(Ljava/lang/String;)Z"⟩, 61)]
theorem lw_r2 : ∀ q ∈ lw_privs_2, lw_okq q := List.forall_mem_cons.mpr ⟨lw_p16, List.forall_mem_cons.mpr ⟨lw_p17, List.forall_mem_cons.mpr ⟨lw_p18, List.forall_mem_cons.mpr ⟨lw_p19, List.forall_mem_cons.mpr ⟨lw_p20, List.forall_mem_cons.mpr ⟨lw_p21, List.forall_mem_cons.mpr ⟨lw_p22, List.forall_mem_cons.mpr ⟨lw_p23, List.forall_mem_cons.mpr ⟨lw_p24, List.forall_mem_cons.mpr ⟨lw_p25, List.forall_mem_cons.mpr ⟨lw_p26, List.forall_mem_cons.mpr ⟨lw_p27, List.forall_mem_cons.mpr ⟨lw_p28, List.forall_mem_cons.mpr ⟨lw_p29, List.forall_mem_cons.mpr ⟨lw_p30, List.forall_mem_cons.mpr ⟨lw_p31, fun _ h => absurd h List.not_mem_nil⟩⟩⟩⟩⟩⟩⟩⟩⟩⟩⟩⟩⟩⟩⟩⟩
theorem lw_p32 : lw_okq (⟨"DebateHouseModel", "motion", "()V"⟩, 61) := ⟨⟨by decide +kernel, by decide +kernel⟩, List.mem_of_getElem? (i := 915) (by decide +kernel), List.mem_of_getElem? (i := 1154) (by decide +kernel), List.mem_of_getElem? (i := 1155) (by decide +kernel)⟩
theorem lw_p33 : lw_okq (⟨"DebateHouseModel", "kindOf", "(I)Ljava/lang/String;"⟩, 61) := ⟨⟨by decide +kernel, by decide +kernel⟩, List.mem_of_getElem? (i := 915) (by decide +kernel), List.mem_of_getElem? (i := 1158) (by decide +kernel), List.mem_of_getElem? (i := 1159) (by decide +kernel)⟩
theorem lw_p34 : lw_okq (⟨"DebateHouseModel", "one", "(Ljava/lang/String;Ljava/lang/String;)Z"⟩, 61) := ⟨⟨by decide +kernel, by decide +kernel⟩, List.mem_of_getElem? (i := 915) (by decide +kernel), List.mem_of_getElem? (i := 1171) (by decide +kernel), List.mem_of_getElem? (i := 1172) (by decide +kernel)⟩
theorem lw_p35 : lw_okq (⟨"DebateHouseModel", "number", "(II)I"⟩, 61) := ⟨⟨by decide +kernel, by decide +kernel⟩, List.mem_of_getElem? (i := 915) (by decide +kernel), List.mem_of_getElem? (i := 1175) (by decide +kernel), List.mem_of_getElem? (i := 1176) (by decide +kernel)⟩
theorem lw_p36 : lw_okq (⟨"DebateHouseModel", "wayOf", "(I)Ljava/lang/String;"⟩, 61) := ⟨⟨by decide +kernel, by decide +kernel⟩, List.mem_of_getElem? (i := 915) (by decide +kernel), List.mem_of_getElem? (i := 1186) (by decide +kernel), List.mem_of_getElem? (i := 1187) (by decide +kernel)⟩
theorem lw_p37 : lw_okq (⟨"DebateHouseModel", "clauseOf", "(I)Ljava/lang/String;"⟩, 61) := ⟨⟨by decide +kernel, by decide +kernel⟩, List.mem_of_getElem? (i := 915) (by decide +kernel), List.mem_of_getElem? (i := 1194) (by decide +kernel), List.mem_of_getElem? (i := 1195) (by decide +kernel)⟩
theorem lw_p38 : lw_okq (⟨"DebateHouseModel", "works", "(I)V"⟩, 61) := ⟨⟨by decide +kernel, by decide +kernel⟩, List.mem_of_getElem? (i := 915) (by decide +kernel), List.mem_of_getElem? (i := 1214) (by decide +kernel), List.mem_of_getElem? (i := 1215) (by decide +kernel)⟩
theorem lw_p39 : lw_okq (⟨"DebateHouseModel", "rule", "(I)I"⟩, 61) := ⟨⟨by decide +kernel, by decide +kernel⟩, List.mem_of_getElem? (i := 915) (by decide +kernel), List.mem_of_getElem? (i := 1218) (by decide +kernel), List.mem_of_getElem? (i := 1219) (by decide +kernel)⟩
theorem lw_p40 : lw_okq (⟨"DebateHouseModel", "isWrong", "(II)Z"⟩, 61) := ⟨⟨by decide +kernel, by decide +kernel⟩, List.mem_of_getElem? (i := 915) (by decide +kernel), List.mem_of_getElem? (i := 1222) (by decide +kernel), List.mem_of_getElem? (i := 1223) (by decide +kernel)⟩
theorem lw_p41 : lw_okq (⟨"DebateHouseModel", "there", "()I"⟩, 61) := ⟨⟨by decide +kernel, by decide +kernel⟩, List.mem_of_getElem? (i := 915) (by decide +kernel), List.mem_of_getElem? (i := 1226) (by decide +kernel), List.mem_of_getElem? (i := 1227) (by decide +kernel)⟩
theorem lw_p42 : lw_okq (⟨"DebateHouseModel", "isInOrder", "(III)Z"⟩, 61) := ⟨⟨by decide +kernel, by decide +kernel⟩, List.mem_of_getElem? (i := 915) (by decide +kernel), List.mem_of_getElem? (i := 1230) (by decide +kernel), List.mem_of_getElem? (i := 1231) (by decide +kernel)⟩
theorem lw_p43 : lw_okq (⟨"DebateHouseModel", "waitsFor", "(I)Z"⟩, 61) := ⟨⟨by decide +kernel, by decide +kernel⟩, List.mem_of_getElem? (i := 915) (by decide +kernel), List.mem_of_getElem? (i := 1234) (by decide +kernel), List.mem_of_getElem? (i := 1235) (by decide +kernel)⟩
theorem lw_p44 : lw_okq (⟨"DebateHouseModel", "mayMove", "(II)Z"⟩, 61) := ⟨⟨by decide +kernel, by decide +kernel⟩, List.mem_of_getElem? (i := 915) (by decide +kernel), List.mem_of_getElem? (i := 1238) (by decide +kernel), List.mem_of_getElem? (i := 1239) (by decide +kernel)⟩
theorem lw_p45 : lw_okq (⟨"DebateHouseModel", "refused", "(I)I"⟩, 61) := ⟨⟨by decide +kernel, by decide +kernel⟩, List.mem_of_getElem? (i := 915) (by decide +kernel), List.mem_of_getElem? (i := 1242) (by decide +kernel), List.mem_of_getElem? (i := 1243) (by decide +kernel)⟩
theorem lw_p46 : lw_okq (⟨"DebateHouseModel", "mayAmend", "(I)Z"⟩, 61) := ⟨⟨by decide +kernel, by decide +kernel⟩, List.mem_of_getElem? (i := 915) (by decide +kernel), List.mem_of_getElem? (i := 1246) (by decide +kernel), List.mem_of_getElem? (i := 1247) (by decide +kernel)⟩
theorem lw_p47 : lw_okq (⟨"DebateHouseModel", "placeOf", "(I)I"⟩, 61) := ⟨⟨by decide +kernel, by decide +kernel⟩, List.mem_of_getElem? (i := 915) (by decide +kernel), List.mem_of_getElem? (i := 1250) (by decide +kernel), List.mem_of_getElem? (i := 1251) (by decide +kernel)⟩
def lw_privs_3 : List (MethodName × Nat) := [(⟨"DebateHouseModel", "motion", "()V"⟩, 61), (⟨"DebateHouseModel", "kindOf", "(I)Ljava/lang/String;"⟩, 61), (⟨"DebateHouseModel", "one", "(Ljava/lang/String;Ljava/lang/String;)Z"⟩, 61), (⟨"DebateHouseModel", "number", "(II)I"⟩, 61), (⟨"DebateHouseModel", "wayOf", "(I)Ljava/lang/String;"⟩, 61), (⟨"DebateHouseModel", "clauseOf", "(I)Ljava/lang/String;"⟩, 61), (⟨"DebateHouseModel", "works", "(I)V"⟩, 61), (⟨"DebateHouseModel", "rule", "(I)I"⟩, 61), (⟨"DebateHouseModel", "isWrong", "(II)Z"⟩, 61), (⟨"DebateHouseModel", "there", "()I"⟩, 61), (⟨"DebateHouseModel", "isInOrder", "(III)Z"⟩, 61), (⟨"DebateHouseModel", "waitsFor", "(I)Z"⟩, 61), (⟨"DebateHouseModel", "mayMove", "(II)Z"⟩, 61), (⟨"DebateHouseModel", "refused", "(I)I"⟩, 61), (⟨"DebateHouseModel", "mayAmend", "(I)Z"⟩, 61), (⟨"DebateHouseModel", "placeOf", "(I)I"⟩, 61)]
theorem lw_r3 : ∀ q ∈ lw_privs_3, lw_okq q := List.forall_mem_cons.mpr ⟨lw_p32, List.forall_mem_cons.mpr ⟨lw_p33, List.forall_mem_cons.mpr ⟨lw_p34, List.forall_mem_cons.mpr ⟨lw_p35, List.forall_mem_cons.mpr ⟨lw_p36, List.forall_mem_cons.mpr ⟨lw_p37, List.forall_mem_cons.mpr ⟨lw_p38, List.forall_mem_cons.mpr ⟨lw_p39, List.forall_mem_cons.mpr ⟨lw_p40, List.forall_mem_cons.mpr ⟨lw_p41, List.forall_mem_cons.mpr ⟨lw_p42, List.forall_mem_cons.mpr ⟨lw_p43, List.forall_mem_cons.mpr ⟨lw_p44, List.forall_mem_cons.mpr ⟨lw_p45, List.forall_mem_cons.mpr ⟨lw_p46, List.forall_mem_cons.mpr ⟨lw_p47, fun _ h => absurd h List.not_mem_nil⟩⟩⟩⟩⟩⟩⟩⟩⟩⟩⟩⟩⟩⟩⟩⟩
theorem lw_p48 : lw_okq (⟨"DebateHouseModel", "does", "(I)V"⟩, 61) := ⟨⟨by decide +kernel, by decide +kernel⟩, List.mem_of_getElem? (i := 915) (by decide +kernel), List.mem_of_getElem? (i := 1254) (by decide +kernel), List.mem_of_getElem? (i := 1255) (by decide +kernel)⟩
theorem lw_p49 : lw_okq (⟨"DebateHouseModel", "leaves", "(I)V"⟩, 61) := ⟨⟨by decide +kernel, by decide +kernel⟩, List.mem_of_getElem? (i := 915) (by decide +kernel), List.mem_of_getElem? (i := 1258) (by decide +kernel), List.mem_of_getElem? (i := 1259) (by decide +kernel)⟩
theorem lw_p50 : lw_okq (⟨"DebateHouseModel", "free", "()V"⟩, 61) := ⟨⟨by decide +kernel, by decide +kernel⟩, List.mem_of_getElem? (i := 915) (by decide +kernel), List.mem_of_getElem? (i := 1262) (by decide +kernel), List.mem_of_getElem? (i := 1263) (by decide +kernel)⟩
theorem lw_p51 : lw_okq (⟨"DebateHouseModel", "next", "([II[I)I"⟩, 61) := ⟨⟨by decide +kernel, by decide +kernel⟩, List.mem_of_getElem? (i := 915) (by decide +kernel), List.mem_of_getElem? (i := 1266) (by decide +kernel), List.mem_of_getElem? (i := 1267) (by decide +kernel)⟩
theorem lw_p52 : lw_okq (⟨"DebateHouseModel", "spoke", "(I[I)I"⟩, 61) := ⟨⟨by decide +kernel, by decide +kernel⟩, List.mem_of_getElem? (i := 915) (by decide +kernel), List.mem_of_getElem? (i := 1270) (by decide +kernel), List.mem_of_getElem? (i := 1271) (by decide +kernel)⟩
theorem lw_p53 : lw_okq (⟨"DebateHouseModel", "moves", "(I)V"⟩, 61) := ⟨⟨by decide +kernel, by decide +kernel⟩, List.mem_of_getElem? (i := 915) (by decide +kernel), List.mem_of_getElem? (i := 1274) (by decide +kernel), List.mem_of_getElem? (i := 1275) (by decide +kernel)⟩
theorem lw_p54 : lw_okq (⟨"DebateHouseModel", "isPassing", "(II)Z"⟩, 61) := ⟨⟨by decide +kernel, by decide +kernel⟩, List.mem_of_getElem? (i := 915) (by decide +kernel), List.mem_of_getElem? (i := 1278) (by decide +kernel), List.mem_of_getElem? (i := 1279) (by decide +kernel)⟩
theorem lw_p55 : lw_okq (⟨"DebateHouseModel", "votes", "(IZ)V"⟩, 61) := ⟨⟨by decide +kernel, by decide +kernel⟩, List.mem_of_getElem? (i := 915) (by decide +kernel), List.mem_of_getElem? (i := 1285) (by decide +kernel), List.mem_of_getElem? (i := 1286) (by decide +kernel)⟩
theorem lw_p56 : lw_okq (⟨"DebateHouseModel", "papers", "(II)V"⟩, 61) := ⟨⟨by decide +kernel, by decide +kernel⟩, List.mem_of_getElem? (i := 915) (by decide +kernel), List.mem_of_getElem? (i := 1289) (by decide +kernel), List.mem_of_getElem? (i := 1290) (by decide +kernel)⟩
theorem lw_p57 : lw_okq (⟨"DebateHouseModel", "amends", "(II)V"⟩, 61) := ⟨⟨by decide +kernel, by decide +kernel⟩, List.mem_of_getElem? (i := 915) (by decide +kernel), List.mem_of_getElem? (i := 1293) (by decide +kernel), List.mem_of_getElem? (i := 1294) (by decide +kernel)⟩
theorem lw_p58 : lw_okq (⟨"DebateHouseModel", "behindGone", "(I)I"⟩, 61) := ⟨⟨by decide +kernel, by decide +kernel⟩, List.mem_of_getElem? (i := 915) (by decide +kernel), List.mem_of_getElem? (i := 1297) (by decide +kernel), List.mem_of_getElem? (i := 1298) (by decide +kernel)⟩
theorem lw_p59 : lw_okq (⟨"DebateHouseModel", "adds", "(II)V"⟩, 61) := ⟨⟨by decide +kernel, by decide +kernel⟩, List.mem_of_getElem? (i := 915) (by decide +kernel), List.mem_of_getElem? (i := 1301) (by decide +kernel), List.mem_of_getElem? (i := 1302) (by decide +kernel)⟩
theorem lw_p60 : lw_okq (⟨"DebateHouseModel", "goes", "(I)V"⟩, 61) := ⟨⟨by decide +kernel, by decide +kernel⟩, List.mem_of_getElem? (i := 915) (by decide +kernel), List.mem_of_getElem? (i := 1305) (by decide +kernel), List.mem_of_getElem? (i := 1306) (by decide +kernel)⟩
theorem lw_p61 : lw_okq (⟨"DebateHouseModel", "again", "(II)V"⟩, 61) := ⟨⟨by decide +kernel, by decide +kernel⟩, List.mem_of_getElem? (i := 915) (by decide +kernel), List.mem_of_getElem? (i := 1313) (by decide +kernel), List.mem_of_getElem? (i := 1314) (by decide +kernel)⟩
theorem lw_p62 : lw_okq (⟨"DebateHouseModel", "counts", "(II)Z"⟩, 61) := ⟨⟨by decide +kernel, by decide +kernel⟩, List.mem_of_getElem? (i := 915) (by decide +kernel), List.mem_of_getElem? (i := 1362) (by decide +kernel), List.mem_of_getElem? (i := 1363) (by decide +kernel)⟩
theorem lw_p63 : lw_okq (⟨"DebateHouseModel", "scaled", "(II)I"⟩, 61) := ⟨⟨by decide +kernel, by decide +kernel⟩, List.mem_of_getElem? (i := 915) (by decide +kernel), List.mem_of_getElem? (i := 1366) (by decide +kernel), List.mem_of_getElem? (i := 1367) (by decide +kernel)⟩
def lw_privs_4 : List (MethodName × Nat) := [(⟨"DebateHouseModel", "does", "(I)V"⟩, 61), (⟨"DebateHouseModel", "leaves", "(I)V"⟩, 61), (⟨"DebateHouseModel", "free", "()V"⟩, 61), (⟨"DebateHouseModel", "next", "([II[I)I"⟩, 61), (⟨"DebateHouseModel", "spoke", "(I[I)I"⟩, 61), (⟨"DebateHouseModel", "moves", "(I)V"⟩, 61), (⟨"DebateHouseModel", "isPassing", "(II)Z"⟩, 61), (⟨"DebateHouseModel", "votes", "(IZ)V"⟩, 61), (⟨"DebateHouseModel", "papers", "(II)V"⟩, 61), (⟨"DebateHouseModel", "amends", "(II)V"⟩, 61), (⟨"DebateHouseModel", "behindGone", "(I)I"⟩, 61), (⟨"DebateHouseModel", "adds", "(II)V"⟩, 61), (⟨"DebateHouseModel", "goes", "(I)V"⟩, 61), (⟨"DebateHouseModel", "again", "(II)V"⟩, 61), (⟨"DebateHouseModel", "counts", "(II)Z"⟩, 61), (⟨"DebateHouseModel", "scaled", "(II)I"⟩, 61)]
theorem lw_r4 : ∀ q ∈ lw_privs_4, lw_okq q := List.forall_mem_cons.mpr ⟨lw_p48, List.forall_mem_cons.mpr ⟨lw_p49, List.forall_mem_cons.mpr ⟨lw_p50, List.forall_mem_cons.mpr ⟨lw_p51, List.forall_mem_cons.mpr ⟨lw_p52, List.forall_mem_cons.mpr ⟨lw_p53, List.forall_mem_cons.mpr ⟨lw_p54, List.forall_mem_cons.mpr ⟨lw_p55, List.forall_mem_cons.mpr ⟨lw_p56, List.forall_mem_cons.mpr ⟨lw_p57, List.forall_mem_cons.mpr ⟨lw_p58, List.forall_mem_cons.mpr ⟨lw_p59, List.forall_mem_cons.mpr ⟨lw_p60, List.forall_mem_cons.mpr ⟨lw_p61, List.forall_mem_cons.mpr ⟨lw_p62, List.forall_mem_cons.mpr ⟨lw_p63, fun _ h => absurd h List.not_mem_nil⟩⟩⟩⟩⟩⟩⟩⟩⟩⟩⟩⟩⟩⟩⟩⟩
def lw_privs : List (MethodName × Nat) := lw_privs_1 ++ (lw_privs_2 ++ (lw_privs_3 ++ (lw_privs_4)))
def lw_tbl : List Cond := k2_sels lw_privs ++ tables_1
theorem lw_privs_ok : ∀ q ∈ lw_privs, lw_okq q := by
  show ∀ q ∈ lw_privs_1 ++ (lw_privs_2 ++ (lw_privs_3 ++ (lw_privs_4))), lw_okq q
  exact List.forall_mem_append.mpr ⟨lw_r1, List.forall_mem_append.mpr ⟨lw_r2, List.forall_mem_append.mpr ⟨lw_r3, lw_r4⟩⟩⟩
end
section
/-! ===== BEGIN printed: names, fields, word lists, decode rows ===== -/
def RX0 : String := "DebateHouse$Floor"
def TX0 : u_T := fun k => match k with
  | 0 => ("DebateHouse$Floor", "rules", "LDebateHouse$Rules;", true)
  | 1 => ("DebateHouse$Floor", "schoolOf", "[I", true)
  | 2 => ("DebateHouse$Floor", "queue", "[I", true)
  | 3 => ("DebateHouse$Floor", "speeches", "[I", true)
  | 4 => ("DebateHouse$Floor", "waiting", "I", false)
  | 5 => ("DebateHouse$Floor", "holder", "I", false)
  | 6 => ("DebateHouse$Floor", "left", "I", false)
  | _ => ("DebateHouse$Floor", "wasYielded", "Z", false)
def tyX0 : Nat → FieldType := fun k => match k with
  | 0 => .object "DebateHouse$Rules"
  | 1 => .array .int
  | 2 => .array .int
  | 3 => .array .int
  | 4 => .int
  | 5 => .int
  | 6 => .int
  | _ => .boolean
theorem nmX0 : ∀ a, a < 8 → ∀ b, b < 8 → a ≠ b → (TX0 a).2.1 ≠ (TX0 b).2.1 := by decide +kernel
theorem tyX0_ok : ∀ k, k < 8 → parseFieldDescriptor (TX0 k).2.2.1 = some (tyX0 k) := by decide +kernel
abbrev cX0_init : ByteArray := prog_2_method_1_code
def yX0_init : MethodName := ⟨RX0, "<init>", "(LDebateHouse$Rules;[I)V"⟩
abbrev cX0_clear : ByteArray := prog_2_method_2_code
def yX0_clear : MethodName := ⟨RX0, "clear", "()V"⟩
abbrev cX0_copyFrom : ByteArray := prog_2_method_3_code
def yX0_copyFrom : MethodName := ⟨RX0, "copyFrom", "(LDebateHouse$Floor;)V"⟩
abbrev cX0_setFree : ByteArray := prog_2_method_4_code
def yX0_setFree : MethodName := ⟨RX0, "setFree", "()V"⟩
abbrev cX0_queuePlaceOf : ByteArray := prog_2_method_5_code
def yX0_queuePlaceOf : MethodName := ⟨RX0, "queuePlaceOf", "(I)I"⟩
abbrev cX0_mayAsk : ByteArray := prog_2_method_6_code
def yX0_mayAsk : MethodName := ⟨RX0, "mayAsk", "(I)Z"⟩
abbrev cX0_mayYieldTo : ByteArray := prog_2_method_7_code
def yX0_mayYieldTo : MethodName := ⟨RX0, "mayYieldTo", "(I)Z"⟩
abbrev cX0_enqueue : ByteArray := prog_2_method_8_code
def yX0_enqueue : MethodName := ⟨RX0, "enqueue", "(I)V"⟩
abbrev cX0_dequeue : ByteArray := prog_2_method_9_code
def yX0_dequeue : MethodName := ⟨RX0, "dequeue", "(I)V"⟩
abbrev cX0_drop : ByteArray := prog_2_method_10_code
def yX0_drop : MethodName := ⟨RX0, "drop", "(I)V"⟩
abbrev cX0_callNext : ByteArray := prog_2_method_11_code
def yX0_callNext : MethodName := ⟨RX0, "callNext", "(I)V"⟩
abbrev cX0_yieldTo : ByteArray := prog_2_method_12_code
def yX0_yieldTo : MethodName := ⟨RX0, "yieldTo", "(I)V"⟩
abbrev cX0_spend : ByteArray := prog_2_method_13_code
def yX0_spend : MethodName := ⟨RX0, "spend", "(I)V"⟩
abbrev cX0_nextPlace : ByteArray := prog_2_method_14_code
def yX0_nextPlace : MethodName := ⟨RX0, "nextPlace", "()I"⟩
abbrev cX0_countedSpeeches : ByteArray := prog_2_method_15_code
def yX0_countedSpeeches : MethodName := ⟨RX0, "countedSpeeches", "(I)I"⟩
def RX1 : String := "DebateHouse$Jury"
def TX1 : u_T := fun k => match k with
  | 0 => ("DebateHouse$Jury", "schoolOf", "[I", true)
  | 1 => ("DebateHouse$Jury", "judgeSchool", "[I", true)
  | 2 => ("DebateHouse$Jury", "points", "[[I", true)
  | _ => ("DebateHouse$Jury", "means", "[I", true)
def tyX1 : Nat → FieldType := fun k => match k with
  | 0 => .array .int
  | 1 => .array .int
  | 2 => .array (.array .int)
  | _ => .array .int
theorem nmX1 : ∀ a, a < 4 → ∀ b, b < 4 → a ≠ b → (TX1 a).2.1 ≠ (TX1 b).2.1 := by decide +kernel
theorem tyX1_ok : ∀ k, k < 4 → parseFieldDescriptor (TX1 k).2.2.1 = some (tyX1 k) := by decide +kernel
abbrev cX1_init : ByteArray := prog_3_method_1_code
def yX1_init : MethodName := ⟨RX1, "<init>", "([I)V"⟩
abbrev cX1_take : ByteArray := prog_3_method_2_code
def yX1_take : MethodName := ⟨RX1, "take", "(IIII)Z"⟩
abbrev cX1_meanOf : ByteArray := prog_3_method_3_code
def yX1_meanOf : MethodName := ⟨RX1, "meanOf", "(I)I"⟩
abbrev cX1_memberAt : ByteArray := prog_3_method_4_code
def yX1_memberAt : MethodName := ⟨RX1, "memberAt", "(I)I"⟩
abbrev cX1_countAheadOf : ByteArray := prog_3_method_5_code
def yX1_countAheadOf : MethodName := ⟨RX1, "countAheadOf", "(I)I"⟩
abbrev cX1_counts : ByteArray := prog_3_method_6_code
def yX1_counts : MethodName := ⟨RX1, "counts", "(II)Z"⟩
abbrev cX1_scaled : ByteArray := prog_3_method_7_code
def yX1_scaled : MethodName := ⟨RX1, "scaled", "(II)I"⟩
def RX2 : String := "DebateHouse$Log"
def TX2 : u_T := fun k => match k with
  | 0 => ("DebateHouse$Log", "what", "[I", true)
  | 1 => ("DebateHouse$Log", "member", "[I", true)
  | 2 => ("DebateHouse$Log", "kind", "[I", true)
  | 3 => ("DebateHouse$Log", "a", "[I", true)
  | 4 => ("DebateHouse$Log", "b", "[I", true)
  | _ => ("DebateHouse$Log", "count", "I", false)
def tyX2 : Nat → FieldType := fun k => match k with
  | 0 => .array .int
  | 1 => .array .int
  | 2 => .array .int
  | 3 => .array .int
  | 4 => .array .int
  | _ => .int
theorem nmX2 : ∀ a, a < 6 → ∀ b, b < 6 → a ≠ b → (TX2 a).2.1 ≠ (TX2 b).2.1 := by decide +kernel
theorem tyX2_ok : ∀ k, k < 6 → parseFieldDescriptor (TX2 k).2.2.1 = some (tyX2 k) := by decide +kernel
abbrev cX2_init : ByteArray := prog_4_method_1_code
def yX2_init : MethodName := ⟨RX2, "<init>", "()V"⟩
abbrev cX2_add : ByteArray := prog_4_method_2_code
def yX2_add : MethodName := ⟨RX2, "add", "(IIIII)V"⟩
def RX3 : String := "DebateHouse$Motions"
def TX3 : u_T := fun k => match k with
  | 0 => ("DebateHouse$Motions", "rules", "LDebateHouse$Rules;", true)
  | 1 => ("DebateHouse$Motions", "kind", "[I", true)
  | 2 => ("DebateHouse$Motions", "mover", "[I", true)
  | 3 => ("DebateHouse$Motions", "a", "[I", true)
  | 4 => ("DebateHouse$Motions", "b", "[I", true)
  | 5 => ("DebateHouse$Motions", "meant", "[I", true)
  | 6 => ("DebateHouse$Motions", "seconded", "[Z", true)
  | 7 => ("DebateHouse$Motions", "debated", "[Z", true)
  | _ => ("DebateHouse$Motions", "count", "I", false)
def tyX3 : Nat → FieldType := fun k => match k with
  | 0 => .object "DebateHouse$Rules"
  | 1 => .array .int
  | 2 => .array .int
  | 3 => .array .int
  | 4 => .array .int
  | 5 => .array .int
  | 6 => .array .boolean
  | 7 => .array .boolean
  | _ => .int
theorem nmX3 : ∀ a, a < 9 → ∀ b, b < 9 → a ≠ b → (TX3 a).2.1 ≠ (TX3 b).2.1 := by decide +kernel
theorem tyX3_ok : ∀ k, k < 9 → parseFieldDescriptor (TX3 k).2.2.1 = some (tyX3 k) := by decide +kernel
abbrev cX3_init : ByteArray := prog_5_method_1_code
def yX3_init : MethodName := ⟨RX3, "<init>", "(LDebateHouse$Rules;)V"⟩
abbrev cX3_top : ByteArray := prog_5_method_2_code
def yX3_top : MethodName := ⟨RX3, "top", "()I"⟩
abbrev cX3_isFull : ByteArray := prog_5_method_3_code
def yX3_isFull : MethodName := ⟨RX3, "isFull", "()Z"⟩
abbrev cX3_has : ByteArray := prog_5_method_4_code
def yX3_has : MethodName := ⟨RX3, "has", "(I)Z"⟩
abbrev cX3_isOutrankedBy : ByteArray := prog_5_method_5_code
def yX3_isOutrankedBy : MethodName := ⟨RX3, "isOutrankedBy", "(I)Z"⟩
abbrev cX3_maySecond : ByteArray := prog_5_method_6_code
def yX3_maySecond : MethodName := ⟨RX3, "maySecond", "(I)Z"⟩
abbrev cX3_mayDecide : ByteArray := prog_5_method_7_code
def yX3_mayDecide : MethodName := ⟨RX3, "mayDecide", "(Z)Z"⟩
abbrev cX3_push : ByteArray := prog_5_method_8_code
def yX3_push : MethodName := ⟨RX3, "push", "(IIIII)V"⟩
abbrev cX3_secondTop : ByteArray := prog_5_method_9_code
def yX3_secondTop : MethodName := ⟨RX3, "secondTop", "()V"⟩
abbrev cX3_debateTop : ByteArray := prog_5_method_10_code
def yX3_debateTop : MethodName := ⟨RX3, "debateTop", "()V"⟩
abbrev cX3_endDebate : ByteArray := prog_5_method_11_code
def yX3_endDebate : MethodName := ⟨RX3, "endDebate", "()V"⟩
abbrev cX3_tell : ByteArray := prog_5_method_12_code
def yX3_tell : MethodName := ⟨RX3, "tell", "(II)I"⟩
def RX4 : String := "DebateHouse$Paper"
def TX4 : u_T := fun k => match k with
  | 0 => ("DebateHouse$Paper", "order", "[I", true)
  | 1 => ("DebateHouse$Paper", "text", "[I", true)
  | 2 => ("DebateHouse$Paper", "cameBeforeItWent", "[I", true)
  | 3 => ("DebateHouse$Paper", "laid", "Z", false)
  | 4 => ("DebateHouse$Paper", "ever", "I", false)
  | _ => ("DebateHouse$Paper", "there", "I", false)
def tyX4 : Nat → FieldType := fun k => match k with
  | 0 => .array .int
  | 1 => .array .int
  | 2 => .array .int
  | 3 => .boolean
  | 4 => .int
  | _ => .int
theorem nmX4 : ∀ a, a < 6 → ∀ b, b < 6 → a ≠ b → (TX4 a).2.1 ≠ (TX4 b).2.1 := by decide +kernel
theorem tyX4_ok : ∀ k, k < 6 → parseFieldDescriptor (TX4 k).2.2.1 = some (tyX4 k) := by decide +kernel
abbrev cX4_init : ByteArray := prog_6_method_1_code
def yX4_init : MethodName := ⟨RX4, "<init>", "()V"⟩
abbrev cX4_takeAway : ByteArray := prog_6_method_2_code
def yX4_takeAway : MethodName := ⟨RX4, "takeAway", "()V"⟩
abbrev cX4_lay : ByteArray := prog_6_method_3_code
def yX4_lay : MethodName := ⟨RX4, "lay", "(II)V"⟩
abbrev cX4_wasEver : ByteArray := prog_6_method_4_code
def yX4_wasEver : MethodName := ⟨RX4, "wasEver", "(I)Z"⟩
abbrev cX4_isThere : ByteArray := prog_6_method_5_code
def yX4_isThere : MethodName := ⟨RX4, "isThere", "(I)Z"⟩
abbrev cX4_mayAmend : ByteArray := prog_6_method_6_code
def yX4_mayAmend : MethodName := ⟨RX4, "mayAmend", "(I)Z"⟩
abbrev cX4_amend : ByteArray := prog_6_method_7_code
def yX4_amend : MethodName := ⟨RX4, "amend", "(II)V"⟩
abbrev cX4_numberAt : ByteArray := prog_6_method_8_code
def yX4_numberAt : MethodName := ⟨RX4, "numberAt", "(I)I"⟩
abbrev cX4_placeOf : ByteArray := prog_6_method_9_code
def yX4_placeOf : MethodName := ⟨RX4, "placeOf", "(I)I"⟩
abbrev cX4_textOf : ByteArray := prog_6_method_10_code
def yX4_textOf : MethodName := ⟨RX4, "textOf", "(I)I"⟩
abbrev cX4_remove : ByteArray := prog_6_method_11_code
def yX4_remove : MethodName := ⟨RX4, "remove", "(I)V"⟩
abbrev cX4_behind : ByteArray := prog_6_method_12_code
def yX4_behind : MethodName := ⟨RX4, "behind", "(I)I"⟩
abbrev cX4_addBehind : ByteArray := prog_6_method_13_code
def yX4_addBehind : MethodName := ⟨RX4, "addBehind", "(II)V"⟩
abbrev cX4_insert : ByteArray := prog_6_method_14_code
def yX4_insert : MethodName := ⟨RX4, "insert", "(II)V"⟩
def RX5 : String := "DebateHouse$Reader"
def TX5 : u_T := fun k => match k with
  | 0 => ("DebateHouse$Reader", "tape", "LDebateHouse$Tape;", true)
  | 1 => ("DebateHouse$Reader", "draft", "LDebateHouse$Rules;", true)
  | 2 => ("DebateHouse$Reader", "at", "I", false)
  | 3 => ("DebateHouse$Reader", "fault", "I", false)
  | _ => ("DebateHouse$Reader", "clausesTold", "I", false)
def tyX5 : Nat → FieldType := fun k => match k with
  | 0 => .object "DebateHouse$Tape"
  | 1 => .object "DebateHouse$Rules"
  | 2 => .int
  | 3 => .int
  | _ => .int
theorem nmX5 : ∀ a, a < 5 → ∀ b, b < 5 → a ≠ b → (TX5 a).2.1 ≠ (TX5 b).2.1 := by decide +kernel
theorem tyX5_ok : ∀ k, k < 5 → parseFieldDescriptor (TX5 k).2.2.1 = some (tyX5 k) := by decide +kernel
abbrev cX5_init : ByteArray := prog_7_method_1_code
def yX5_init : MethodName := ⟨RX5, "<init>", "(LDebateHouse$Tape;LDebateHouse$Rules;)V"⟩
abbrev cX5_readTape : ByteArray := prog_7_method_2_code
def yX5_readTape : MethodName := ⟨RX5, "readTape", "()I"⟩
abbrev cX5_readClause : ByteArray := prog_7_method_3_code
def yX5_readClause : MethodName := ⟨RX5, "readClause", "()V"⟩
abbrev cX5_readMotion : ByteArray := prog_7_method_4_code
def yX5_readMotion : MethodName := ⟨RX5, "readMotion", "()V"⟩
abbrev cX5_readKind : ByteArray := prog_7_method_5_code
def yX5_readKind : MethodName := ⟨RX5, "readKind", "()I"⟩
abbrev cX5_readWay : ByteArray := prog_7_method_6_code
def yX5_readWay : MethodName := ⟨RX5, "readWay", "()I"⟩
abbrev cX5_readChoice : ByteArray := prog_7_method_7_code
def yX5_readChoice : MethodName := ⟨RX5, "readChoice", "(Ljava/lang/String;Ljava/lang/String;)Z"⟩
abbrev cX5_readNumber : ByteArray := prog_7_method_8_code
def yX5_readNumber : MethodName := ⟨RX5, "readNumber", "(II)I"⟩
abbrev cX5_tellOnce : ByteArray := prog_7_method_9_code
def yX5_tellOnce : MethodName := ⟨RX5, "tellOnce", "(II)V"⟩
abbrev cX5_expectWord : ByteArray := prog_7_method_10_code
def yX5_expectWord : MethodName := ⟨RX5, "expectWord", "(Ljava/lang/String;)V"⟩
abbrev cX5_expectSemicolon : ByteArray := prog_7_method_11_code
def yX5_expectSemicolon : MethodName := ⟨RX5, "expectSemicolon", "()V"⟩
abbrev cX5_tookWord : ByteArray := prog_7_method_12_code
def yX5_tookWord : MethodName := ⟨RX5, "tookWord", "(Ljava/lang/String;)Z"⟩
abbrev cX5_skipBlanks : ByteArray := prog_7_method_13_code
def yX5_skipBlanks : MethodName := ⟨RX5, "skipBlanks", "()V"⟩
abbrev cX5_fail : ByteArray := prog_7_method_14_code
def yX5_fail : MethodName := ⟨RX5, "fail", "(II)V"⟩
abbrev cX5_isSmallLetter : ByteArray := prog_7_method_15_code
def yX5_isSmallLetter : MethodName := ⟨RX5, "isSmallLetter", "(I)Z"⟩
abbrev cX5_isDigit : ByteArray := prog_7_method_16_code
def yX5_isDigit : MethodName := ⟨RX5, "isDigit", "(I)Z"⟩
abbrev cX5_kindWord : ByteArray := prog_7_method_17_code
def yX5_kindWord : MethodName := ⟨RX5, "kindWord", "(I)Ljava/lang/String;"⟩
abbrev cX5_wayWord : ByteArray := prog_7_method_18_code
def yX5_wayWord : MethodName := ⟨RX5, "wayWord", "(I)Ljava/lang/String;"⟩
def RX6 : String := "DebateHouse$Rules"
def TX6 : u_T := fun k => match k with
  | 0 => ("DebateHouse$Rules", "rank", "[I", true)
  | 1 => ("DebateHouse$Rules", "way", "[I", true)
  | 2 => ("DebateHouse$Rules", "needsSecond", "[Z", true)
  | 3 => ("DebateHouse$Rules", "needsDebate", "[Z", true)
  | 4 => ("DebateHouse$Rules", "time", "I", false)
  | 5 => ("DebateHouse$Rules", "quorum", "I", false)
  | 6 => ("DebateHouse$Rules", "turnsBySchools", "Z", false)
  | _ => ("DebateHouse$Rules", "yieldsLet", "Z", false)
def tyX6 : Nat → FieldType := fun k => match k with
  | 0 => .array .int
  | 1 => .array .int
  | 2 => .array .boolean
  | 3 => .array .boolean
  | 4 => .int
  | 5 => .int
  | 6 => .boolean
  | _ => .boolean
theorem nmX6 : ∀ a, a < 8 → ∀ b, b < 8 → a ≠ b → (TX6 a).2.1 ≠ (TX6 b).2.1 := by decide +kernel
theorem tyX6_ok : ∀ k, k < 8 → parseFieldDescriptor (TX6 k).2.2.1 = some (tyX6 k) := by decide +kernel
abbrev cX6_init : ByteArray := prog_8_method_1_code
def yX6_init : MethodName := ⟨RX6, "<init>", "()V"⟩
abbrev cX6_clear : ByteArray := prog_8_method_2_code
def yX6_clear : MethodName := ⟨RX6, "clear", "()V"⟩
abbrev cX6_copyFrom : ByteArray := prog_8_method_3_code
def yX6_copyFrom : MethodName := ⟨RX6, "copyFrom", "(LDebateHouse$Rules;)V"⟩
abbrev cX6_lets : ByteArray := prog_8_method_4_code
def yX6_lets : MethodName := ⟨RX6, "lets", "(I)Z"⟩
abbrev cX6_rankOf : ByteArray := prog_8_method_5_code
def yX6_rankOf : MethodName := ⟨RX6, "rankOf", "(I)I"⟩
def RX7 : String := "DebateHouse$Session"
def TX7 : u_T := fun k => match k with
  | 0 => ("DebateHouse$Session", "rules", "LDebateHouse$Rules;", true)
  | 1 => ("DebateHouse$Session", "log", "LDebateHouse$Log;", true)
  | 2 => ("DebateHouse$Session", "floor", "LDebateHouse$Floor;", true)
  | 3 => ("DebateHouse$Session", "motions", "LDebateHouse$Motions;", true)
  | 4 => ("DebateHouse$Session", "paper", "LDebateHouse$Paper;", true)
  | 5 => ("DebateHouse$Session", "rulings", "[I", true)
  | 6 => ("DebateHouse$Session", "passes", "[I", true)
  | 7 => ("DebateHouse$Session", "overturns", "[Z", true)
  | 8 => ("DebateHouse$Session", "appealDecided", "[Z", true)
  | 9 => ("DebateHouse$Session", "worked", "I", false)
  | 10 => ("DebateHouse$Session", "latestRefused", "I", false)
  | 11 => ("DebateHouse$Session", "there", "I", false)
  | 12 => ("DebateHouse$Session", "time", "I", false)
  | 13 => ("DebateHouse$Session", "recess", "I", false)
  | 14 => ("DebateHouse$Session", "ticks", "I", false)
  | _ => ("DebateHouse$Session", "over", "Z", false)
def tyX7 : Nat → FieldType := fun k => match k with
  | 0 => .object "DebateHouse$Rules"
  | 1 => .object "DebateHouse$Log"
  | 2 => .object "DebateHouse$Floor"
  | 3 => .object "DebateHouse$Motions"
  | 4 => .object "DebateHouse$Paper"
  | 5 => .array .int
  | 6 => .array .int
  | 7 => .array .boolean
  | 8 => .array .boolean
  | 9 => .int
  | 10 => .int
  | 11 => .int
  | 12 => .int
  | 13 => .int
  | 14 => .int
  | _ => .boolean
theorem nmX7 : ∀ a, a < 16 → ∀ b, b < 16 → a ≠ b → (TX7 a).2.1 ≠ (TX7 b).2.1 := by decide +kernel
theorem tyX7_ok : ∀ k, k < 16 → parseFieldDescriptor (TX7 k).2.2.1 = some (tyX7 k) := by decide +kernel
abbrev cX7_init : ByteArray := prog_9_method_1_code
def yX7_init : MethodName := ⟨RX7, "<init>", "(LDebateHouse$Rules;[ILDebateHouse$Log;)V"⟩
abbrev cX7_startAnew : ByteArray := prog_9_method_2_code
def yX7_startAnew : MethodName := ⟨RX7, "startAnew", "()V"⟩
abbrev cX7_work : ByteArray := prog_9_method_3_code
def yX7_work : MethodName := ⟨RX7, "work", "(IZ)Z"⟩
abbrev cX7_rulingOf : ByteArray := prog_9_method_4_code
def yX7_rulingOf : MethodName := ⟨RX7, "rulingOf", "(I)I"⟩
abbrev cX7_passedOf : ByteArray := prog_9_method_5_code
def yX7_passedOf : MethodName := ⟨RX7, "passedOf", "(I)I"⟩
abbrev cX7_overturnedOf : ByteArray := prog_9_method_6_code
def yX7_overturnedOf : MethodName := ⟨RX7, "overturnedOf", "(I)I"⟩
abbrev cX7_tell : ByteArray := prog_9_method_7_code
def yX7_tell : MethodName := ⟨RX7, "tell", "(I)I"⟩
abbrev cX7_isWorked : ByteArray := prog_9_method_8_code
def yX7_isWorked : MethodName := ⟨RX7, "isWorked", "(I)Z"⟩
abbrev cX7_isThere : ByteArray := prog_9_method_9_code
def yX7_isThere : MethodName := ⟨RX7, "isThere", "(I)Z"⟩
abbrev cX7_refusalAtLarge : ByteArray := prog_9_method_10_code
def yX7_refusalAtLarge : MethodName := ⟨RX7, "refusalAtLarge", "(I)I"⟩
abbrev cX7_isOfMember : ByteArray := prog_9_method_11_code
def yX7_isOfMember : MethodName := ⟨RX7, "isOfMember", "(I)Z"⟩
abbrev cX7_numbersAreAsTold : ByteArray := prog_9_method_12_code
def yX7_numbersAreAsTold : MethodName := ⟨RX7, "numbersAreAsTold", "(I)Z"⟩
abbrev cX7_isInOrder : ByteArray := prog_9_method_13_code
def yX7_isInOrder : MethodName := ⟨RX7, "isInOrder", "(I)Z"⟩
abbrev cX7_mayMove : ByteArray := prog_9_method_14_code
def yX7_mayMove : MethodName := ⟨RX7, "mayMove", "(I)Z"⟩
abbrev cX7_mayMoveKind : ByteArray := prog_9_method_15_code
def yX7_mayMoveKind : MethodName := ⟨RX7, "mayMoveKind", "(II)Z"⟩
abbrev cX7_mayAppeal : ByteArray := prog_9_method_16_code
def yX7_mayAppeal : MethodName := ⟨RX7, "mayAppeal", "()Z"⟩
abbrev cX7_hasOther : ByteArray := prog_9_method_17_code
def yX7_hasOther : MethodName := ⟨RX7, "hasOther", "(II)Z"⟩
abbrev cX7_perform : ByteArray := prog_9_method_18_code
def yX7_perform : MethodName := ⟨RX7, "perform", "(I)V"⟩
abbrev cX7_letTicksGo : ByteArray := prog_9_method_19_code
def yX7_letTicksGo : MethodName := ⟨RX7, "letTicksGo", "(I)V"⟩
abbrev cX7_decide : ByteArray := prog_9_method_20_code
def yX7_decide : MethodName := ⟨RX7, "decide", "(I)V"⟩
abbrev cX7_isCarried : ByteArray := prog_9_method_21_code
def yX7_isCarried : MethodName := ⟨RX7, "isCarried", "(III)Z"⟩
abbrev cX7_settleAppeal : ByteArray := prog_9_method_22_code
def yX7_settleAppeal : MethodName := ⟨RX7, "settleAppeal", "(IZ)V"⟩
abbrev cX7_carryOut : ByteArray := prog_9_method_23_code
def yX7_carryOut : MethodName := ⟨RX7, "carryOut", "(III)V"⟩
def RX8 : String := "DebateHouse$Tape"
def TX8 : u_T := fun k => match k with
  | 0 => ("DebateHouse$Tape", "bytes", "[B", true)
  | _ => ("DebateHouse$Tape", "length", "I", false)
def tyX8 : Nat → FieldType := fun k => match k with
  | 0 => .array .byte
  | _ => .int
theorem nmX8 : ∀ a, a < 2 → ∀ b, b < 2 → a ≠ b → (TX8 a).2.1 ≠ (TX8 b).2.1 := by decide +kernel
theorem tyX8_ok : ∀ k, k < 2 → parseFieldDescriptor (TX8 k).2.2.1 = some (tyX8 k) := by decide +kernel
abbrev cX8_init : ByteArray := prog_10_method_1_code
def yX8_init : MethodName := ⟨RX8, "<init>", "()V"⟩
abbrev cX8_append : ByteArray := prog_10_method_2_code
def yX8_append : MethodName := ⟨RX8, "append", "(I)V"⟩
abbrev cX8_byteAt : ByteArray := prog_10_method_3_code
def yX8_byteAt : MethodName := ⟨RX8, "byteAt", "(I)I"⟩
def RX9 : String := "DebateHouse"
def TX9 : u_T := fun k => match k with
  | 0 => ("DebateHouse", "tape", "LDebateHouse$Tape;", true)
  | 1 => ("DebateHouse", "law", "LDebateHouse$Rules;", true)
  | 2 => ("DebateHouse", "draft", "LDebateHouse$Rules;", true)
  | 3 => ("DebateHouse", "reader", "LDebateHouse$Reader;", true)
  | 4 => ("DebateHouse", "schools", "[I", true)
  | 5 => ("DebateHouse", "log", "LDebateHouse$Log;", true)
  | 6 => ("DebateHouse", "live", "LDebateHouse$Session;", true)
  | 7 => ("DebateHouse", "anew", "LDebateHouse$Session;", true)
  | 8 => ("DebateHouse", "trial", "LDebateHouse$Floor;", true)
  | _ => ("DebateHouse", "jury", "LDebateHouse$Jury;", true)
def tyX9 : Nat → FieldType := fun k => match k with
  | 0 => .object "DebateHouse$Tape"
  | 1 => .object "DebateHouse$Rules"
  | 2 => .object "DebateHouse$Rules"
  | 3 => .object "DebateHouse$Reader"
  | 4 => .array .int
  | 5 => .object "DebateHouse$Log"
  | 6 => .object "DebateHouse$Session"
  | 7 => .object "DebateHouse$Session"
  | 8 => .object "DebateHouse$Floor"
  | _ => .object "DebateHouse$Jury"
theorem nmX9 : ∀ a, a < 10 → ∀ b, b < 10 → a ≠ b → (TX9 a).2.1 ≠ (TX9 b).2.1 := by decide +kernel
theorem tyX9_ok : ∀ k, k < 10 → parseFieldDescriptor (TX9 k).2.2.1 = some (tyX9 k) := by decide +kernel
abbrev cX9_init : ByteArray := prog_1_method_1_code
def yX9_init : MethodName := ⟨RX9, "<init>", "()V"⟩
abbrev cX9_feed : ByteArray := prog_1_method_2_code
def yX9_feed : MethodName := ⟨RX9, "feed", "(IIIII)I"⟩
abbrev cX9_end : ByteArray := prog_1_method_3_code
def yX9_end : MethodName := ⟨RX9, "end", "(I)I"⟩
abbrev cX9_rules : ByteArray := prog_1_method_4_code
def yX9_rules : MethodName := ⟨RX9, "rules", "()I"⟩
abbrev cX9_school : ByteArray := prog_1_method_5_code
def yX9_school : MethodName := ⟨RX9, "school", "(II)Z"⟩
abbrev cX9_act : ByteArray := prog_1_method_6_code
def yX9_act : MethodName := ⟨RX9, "act", "(IIIII)I"⟩
abbrev cX9_ruling : ByteArray := prog_1_method_7_code
def yX9_ruling : MethodName := ⟨RX9, "ruling", "(I)I"⟩
abbrev cX9_passed : ByteArray := prog_1_method_8_code
def yX9_passed : MethodName := ⟨RX9, "passed", "(I)I"⟩
abbrev cX9_state : ByteArray := prog_1_method_9_code
def yX9_state : MethodName := ⟨RX9, "state", "(I)I"⟩
abbrev cX9_pending : ByteArray := prog_1_method_10_code
def yX9_pending : MethodName := ⟨RX9, "pending", "(II)I"⟩
abbrev cX9_clause : ByteArray := prog_1_method_11_code
def yX9_clause : MethodName := ⟨RX9, "clause", "(II)I"⟩
abbrev cX9_place : ByteArray := prog_1_method_12_code
def yX9_place : MethodName := ⟨RX9, "place", "(I)I"⟩
abbrev cX9_speeches : ByteArray := prog_1_method_13_code
def yX9_speeches : MethodName := ⟨RX9, "speeches", "(I)I"⟩
abbrev cX9_waits : ByteArray := prog_1_method_14_code
def yX9_waits : MethodName := ⟨RX9, "waits", "(I)I"⟩
abbrev cX9_overturned : ByteArray := prog_1_method_15_code
def yX9_overturned : MethodName := ⟨RX9, "overturned", "(I)I"⟩
abbrev cX9_beside : ByteArray := prog_1_method_16_code
def yX9_beside : MethodName := ⟨RX9, "beside", "(II)I"⟩
abbrev cX9_score : ByteArray := prog_1_method_17_code
def yX9_score : MethodName := ⟨RX9, "score", "(IIII)Z"⟩
abbrev cX9_mean : ByteArray := prog_1_method_18_code
def yX9_mean : MethodName := ⟨RX9, "mean", "(I)I"⟩
abbrev cX9_award : ByteArray := prog_1_method_19_code
def yX9_award : MethodName := ⟨RX9, "award", "(I)I"⟩
abbrev cX9_told : ByteArray := prog_1_method_20_code
def yX9_told : MethodName := ⟨RX9, "told", "(I)I"⟩
abbrev cX9_isMember : ByteArray := prog_1_method_21_code
def yX9_isMember : MethodName := ⟨RX9, "isMember", "(I)Z"⟩
abbrev cX9_isSchool : ByteArray := prog_1_method_22_code
def yX9_isSchool : MethodName := ⟨RX9, "isSchool", "(I)Z"⟩
abbrev cX9_isKind : ByteArray := prog_1_method_23_code
def yX9_isKind : MethodName := ⟨RX9, "isKind", "(I)Z"⟩
abbrev cX9_isActNumber : ByteArray := prog_1_method_24_code
def yX9_isActNumber : MethodName := ⟨RX9, "isActNumber", "(I)Z"⟩
def RX10 : String := "DebateHouseModel"
def TX10 : u_T := fun k => match k with
  | 0 => ("DebateHouseModel", "thrown", "I", false)
  | 1 => ("DebateHouseModel", "tape", "[B", true)
  | 2 => ("DebateHouseModel", "taped", "I", false)
  | 3 => ("DebateHouseModel", "at", "I", false)
  | 4 => ("DebateHouseModel", "from", "I", false)
  | 5 => ("DebateHouseModel", "fault", "I", false)
  | 6 => ("DebateHouseModel", "told", "[Z", true)
  | 7 => ("DebateHouseModel", "rank", "[[I", true)
  | 8 => ("DebateHouseModel", "way", "[[I", true)
  | 9 => ("DebateHouseModel", "needsSecond", "[[Z", true)
  | 10 => ("DebateHouseModel", "hasDebate", "[[Z", true)
  | 11 => ("DebateHouseModel", "time", "[I", true)
  | 12 => ("DebateHouseModel", "quorum", "[I", true)
  | 13 => ("DebateHouseModel", "bySchools", "[Z", true)
  | 14 => ("DebateHouseModel", "yields", "[Z", true)
  | 15 => ("DebateHouseModel", "school", "[I", true)
  | 16 => ("DebateHouseModel", "acts", "I", false)
  | 17 => ("DebateHouseModel", "what", "[I", true)
  | 18 => ("DebateHouseModel", "who", "[I", true)
  | 19 => ("DebateHouseModel", "kind", "[I", true)
  | 20 => ("DebateHouseModel", "first", "[I", true)
  | 21 => ("DebateHouseModel", "second", "[I", true)
  | 22 => ("DebateHouseModel", "ruling", "[[I", true)
  | 23 => ("DebateHouseModel", "passed", "[[I", true)
  | 24 => ("DebateHouseModel", "overturned", "[[Z", true)
  | 25 => ("DebateHouseModel", "side", "I", false)
  | 26 => ("DebateHouseModel", "forced", "I", false)
  | 27 => ("DebateHouseModel", "isNothing", "Z", false)
  | 28 => ("DebateHouseModel", "isThere", "[Z", true)
  | 29 => ("DebateHouseModel", "queue", "[I", true)
  | 30 => ("DebateHouseModel", "speeches", "[I", true)
  | 31 => ("DebateHouseModel", "queued", "I", false)
  | 32 => ("DebateHouseModel", "floor", "I", false)
  | 33 => ("DebateHouseModel", "left", "I", false)
  | 34 => ("DebateHouseModel", "ticks", "I", false)
  | 35 => ("DebateHouseModel", "now", "I", false)
  | 36 => ("DebateHouseModel", "rest", "I", false)
  | 37 => ("DebateHouseModel", "wasYielded", "Z", false)
  | 38 => ("DebateHouseModel", "isOver", "Z", false)
  | 39 => ("DebateHouseModel", "pending", "I", false)
  | 40 => ("DebateHouseModel", "pKind", "[I", true)
  | 41 => ("DebateHouseModel", "pMover", "[I", true)
  | 42 => ("DebateHouseModel", "pA", "[I", true)
  | 43 => ("DebateHouseModel", "pB", "[I", true)
  | 44 => ("DebateHouseModel", "pOf", "[I", true)
  | 45 => ("DebateHouseModel", "pSecond", "[Z", true)
  | 46 => ("DebateHouseModel", "pDebate", "[Z", true)
  | 47 => ("DebateHouseModel", "wasAppealed", "[Z", true)
  | 48 => ("DebateHouseModel", "hasPaper", "Z", false)
  | 49 => ("DebateHouseModel", "clauses", "I", false)
  | 50 => ("DebateHouseModel", "numbers", "I", false)
  | 51 => ("DebateHouseModel", "number", "[I", true)
  | 52 => ("DebateHouseModel", "text", "[I", true)
  | 53 => ("DebateHouseModel", "aheadMany", "[I", true)
  | 54 => ("DebateHouseModel", "ahead", "[[I", true)
  | 55 => ("DebateHouseModel", "row", "[I", true)
  | 56 => ("DebateHouseModel", "by", "[I", true)
  | 57 => ("DebateHouseModel", "judgeSchool", "[I", true)
  | 58 => ("DebateHouseModel", "score", "[[I", true)
  | 59 => ("DebateHouseModel", "hasScore", "[[Z", true)
  | _ => ("DebateHouseModel", "gone", "[Z", true)
def tyX10 : Nat → FieldType := fun k => match k with
  | 0 => .int
  | 1 => .array .byte
  | 2 => .int
  | 3 => .int
  | 4 => .int
  | 5 => .int
  | 6 => .array .boolean
  | 7 => .array (.array .int)
  | 8 => .array (.array .int)
  | 9 => .array (.array .boolean)
  | 10 => .array (.array .boolean)
  | 11 => .array .int
  | 12 => .array .int
  | 13 => .array .boolean
  | 14 => .array .boolean
  | 15 => .array .int
  | 16 => .int
  | 17 => .array .int
  | 18 => .array .int
  | 19 => .array .int
  | 20 => .array .int
  | 21 => .array .int
  | 22 => .array (.array .int)
  | 23 => .array (.array .int)
  | 24 => .array (.array .boolean)
  | 25 => .int
  | 26 => .int
  | 27 => .boolean
  | 28 => .array .boolean
  | 29 => .array .int
  | 30 => .array .int
  | 31 => .int
  | 32 => .int
  | 33 => .int
  | 34 => .int
  | 35 => .int
  | 36 => .int
  | 37 => .boolean
  | 38 => .boolean
  | 39 => .int
  | 40 => .array .int
  | 41 => .array .int
  | 42 => .array .int
  | 43 => .array .int
  | 44 => .array .int
  | 45 => .array .boolean
  | 46 => .array .boolean
  | 47 => .array .boolean
  | 48 => .boolean
  | 49 => .int
  | 50 => .int
  | 51 => .array .int
  | 52 => .array .int
  | 53 => .array .int
  | 54 => .array (.array .int)
  | 55 => .array .int
  | 56 => .array .int
  | 57 => .array .int
  | 58 => .array (.array .int)
  | 59 => .array (.array .boolean)
  | _ => .array .boolean
theorem nmX10 : ∀ a, a < 61 → ∀ b, b < 61 → a ≠ b → (TX10 a).2.1 ≠ (TX10 b).2.1 := by decide +kernel
theorem tyX10_ok : ∀ k, k < 61 → parseFieldDescriptor (TX10 k).2.2.1 = some (tyX10 k) := by decide +kernel
abbrev cX10_init : ByteArray := prog_12_method_1_code
def yX10_init : MethodName := ⟨RX10, "<init>", "()V"⟩
abbrev cX10_in : ByteArray := prog_12_method_3_code
def yX10_in : MethodName := ⟨RX10, "in", "(III)Z"⟩
abbrev cX10_feed : ByteArray := prog_12_method_4_code
def yX10_feed : MethodName := ⟨RX10, "feed", "(IIIII)I"⟩
abbrev cX10_put : ByteArray := prog_12_method_5_code
def yX10_put : MethodName := ⟨RX10, "put", "(I)V"⟩
abbrev cX10_end : ByteArray := prog_12_method_6_code
def yX10_end : MethodName := ⟨RX10, "end", "(I)I"⟩
abbrev cX10_fails : ByteArray := prog_12_method_7_code
def yX10_fails : MethodName := ⟨RX10, "fails", "(II)V"⟩
abbrev cX10_isEnd : ByteArray := prog_12_method_8_code
def yX10_isEnd : MethodName := ⟨RX10, "isEnd", "()Z"⟩
abbrev cX10_isLetter : ByteArray := prog_12_method_9_code
def yX10_isLetter : MethodName := ⟨RX10, "isLetter", "()Z"⟩
abbrev cX10_word : ByteArray := prog_12_method_10_code
def yX10_word : MethodName := ⟨RX10, "word", "()V"⟩
abbrev cX10_is : ByteArray := prog_12_method_11_code
def yX10_is : MethodName := ⟨RX10, "is", "(Ljava/lang/String;)Z"⟩
abbrev cX10_number : ByteArray := prog_12_method_12_code
def yX10_number : MethodName := ⟨RX10, "number", "(II)I"⟩
abbrev cX10_kindOf : ByteArray := prog_12_method_13_code
def yX10_kindOf : MethodName := ⟨RX10, "kindOf", "(I)Ljava/lang/String;"⟩
abbrev cX10_wayOf : ByteArray := prog_12_method_14_code
def yX10_wayOf : MethodName := ⟨RX10, "wayOf", "(I)Ljava/lang/String;"⟩
abbrev cX10_clauseOf : ByteArray := prog_12_method_15_code
def yX10_clauseOf : MethodName := ⟨RX10, "clauseOf", "(I)Ljava/lang/String;"⟩
abbrev cX10_one : ByteArray := prog_12_method_16_code
def yX10_one : MethodName := ⟨RX10, "one", "(Ljava/lang/String;Ljava/lang/String;)Z"⟩
abbrev cX10_motion : ByteArray := prog_12_method_17_code
def yX10_motion : MethodName := ⟨RX10, "motion", "()V"⟩
abbrev cX10_clause : ByteArray := prog_12_method_18_code
def yX10_clause : MethodName := ⟨RX10, "clause", "()V"⟩
abbrev cX10_rules : ByteArray := prog_12_method_19_code
def yX10_rules : MethodName := ⟨RX10, "rules", "()I"⟩
abbrev cX10_school : ByteArray := prog_12_method_20_code
def yX10_school : MethodName := ⟨RX10, "school", "(II)Z"⟩
abbrev cX10_begin : ByteArray := prog_12_method_21_code
def yX10_begin : MethodName := ⟨RX10, "begin", "()V"⟩
abbrev cX10_there : ByteArray := prog_12_method_22_code
def yX10_there : MethodName := ⟨RX10, "there", "()I"⟩
abbrev cX10_waitsFor : ByteArray := prog_12_method_23_code
def yX10_waitsFor : MethodName := ⟨RX10, "waitsFor", "(I)Z"⟩
abbrev cX10_leaves : ByteArray := prog_12_method_24_code
def yX10_leaves : MethodName := ⟨RX10, "leaves", "(I)V"⟩
abbrev cX10_free : ByteArray := prog_12_method_25_code
def yX10_free : MethodName := ⟨RX10, "free", "()V"⟩
abbrev cX10_spoke : ByteArray := prog_12_method_26_code
def yX10_spoke : MethodName := ⟨RX10, "spoke", "(I[I)I"⟩
abbrev cX10_next : ByteArray := prog_12_method_27_code
def yX10_next : MethodName := ⟨RX10, "next", "([II[I)I"⟩
abbrev cX10_rule : ByteArray := prog_12_method_28_code
def yX10_rule : MethodName := ⟨RX10, "rule", "(I)I"⟩
abbrev cX10_isWrong : ByteArray := prog_12_method_29_code
def yX10_isWrong : MethodName := ⟨RX10, "isWrong", "(II)Z"⟩
abbrev cX10_isInOrder : ByteArray := prog_12_method_30_code
def yX10_isInOrder : MethodName := ⟨RX10, "isInOrder", "(III)Z"⟩
abbrev cX10_refused : ByteArray := prog_12_method_31_code
def yX10_refused : MethodName := ⟨RX10, "refused", "(I)I"⟩
abbrev cX10_mayMove : ByteArray := prog_12_method_32_code
def yX10_mayMove : MethodName := ⟨RX10, "mayMove", "(II)Z"⟩
abbrev cX10_placeOf : ByteArray := prog_12_method_33_code
def yX10_placeOf : MethodName := ⟨RX10, "placeOf", "(I)I"⟩
abbrev cX10_mayAmend : ByteArray := prog_12_method_34_code
def yX10_mayAmend : MethodName := ⟨RX10, "mayAmend", "(I)Z"⟩
abbrev cX10_does : ByteArray := prog_12_method_35_code
def yX10_does : MethodName := ⟨RX10, "does", "(I)V"⟩
abbrev cX10_moves : ByteArray := prog_12_method_36_code
def yX10_moves : MethodName := ⟨RX10, "moves", "(I)V"⟩
abbrev cX10_many : ByteArray := prog_12_method_37_code
def yX10_many : MethodName := ⟨RX10, "many", "(I)I"⟩
abbrev cX10_isPassing : ByteArray := prog_12_method_38_code
def yX10_isPassing : MethodName := ⟨RX10, "isPassing", "(II)Z"⟩
abbrev cX10_votes : ByteArray := prog_12_method_39_code
def yX10_votes : MethodName := ⟨RX10, "votes", "(IZ)V"⟩
abbrev cX10_papers : ByteArray := prog_12_method_40_code
def yX10_papers : MethodName := ⟨RX10, "papers", "(II)V"⟩
abbrev cX10_goes : ByteArray := prog_12_method_41_code
def yX10_goes : MethodName := ⟨RX10, "goes", "(I)V"⟩
abbrev cX10_adds : ByteArray := prog_12_method_42_code
def yX10_adds : MethodName := ⟨RX10, "adds", "(II)V"⟩
abbrev cX10_amends : ByteArray := prog_12_method_43_code
def yX10_amends : MethodName := ⟨RX10, "amends", "(II)V"⟩
abbrev cX10_behindGone : ByteArray := prog_12_method_44_code
def yX10_behindGone : MethodName := ⟨RX10, "behindGone", "(I)I"⟩
abbrev cX10_works : ByteArray := prog_12_method_45_code
def yX10_works : MethodName := ⟨RX10, "works", "(I)V"⟩
abbrev cX10_act : ByteArray := prog_12_method_46_code
def yX10_act : MethodName := ⟨RX10, "act", "(IIIII)I"⟩
abbrev cX10_again : ByteArray := prog_12_method_47_code
def yX10_again : MethodName := ⟨RX10, "again", "(II)V"⟩
abbrev cX10_beside : ByteArray := prog_12_method_48_code
def yX10_beside : MethodName := ⟨RX10, "beside", "(II)I"⟩
abbrev cX10_ruling : ByteArray := prog_12_method_49_code
def yX10_ruling : MethodName := ⟨RX10, "ruling", "(I)I"⟩
abbrev cX10_passed : ByteArray := prog_12_method_50_code
def yX10_passed : MethodName := ⟨RX10, "passed", "(I)I"⟩
abbrev cX10_state : ByteArray := prog_12_method_51_code
def yX10_state : MethodName := ⟨RX10, "state", "(I)I"⟩
abbrev cX10_pending : ByteArray := prog_12_method_52_code
def yX10_pending : MethodName := ⟨RX10, "pending", "(II)I"⟩
abbrev cX10_clause_ : ByteArray := prog_12_method_53_code
def yX10_clause_ : MethodName := ⟨RX10, "clause", "(II)I"⟩
abbrev cX10_place : ByteArray := prog_12_method_54_code
def yX10_place : MethodName := ⟨RX10, "place", "(I)I"⟩
abbrev cX10_speeches : ByteArray := prog_12_method_55_code
def yX10_speeches : MethodName := ⟨RX10, "speeches", "(I)I"⟩
abbrev cX10_waits : ByteArray := prog_12_method_56_code
def yX10_waits : MethodName := ⟨RX10, "waits", "(I)I"⟩
abbrev cX10_overturned : ByteArray := prog_12_method_57_code
def yX10_overturned : MethodName := ⟨RX10, "overturned", "(I)I"⟩
abbrev cX10_score : ByteArray := prog_12_method_58_code
def yX10_score : MethodName := ⟨RX10, "score", "(IIII)Z"⟩
abbrev cX10_counts : ByteArray := prog_12_method_59_code
def yX10_counts : MethodName := ⟨RX10, "counts", "(II)Z"⟩
abbrev cX10_scaled : ByteArray := prog_12_method_60_code
def yX10_scaled : MethodName := ⟨RX10, "scaled", "(II)I"⟩
abbrev cX10_mean : ByteArray := prog_12_method_61_code
def yX10_mean : MethodName := ⟨RX10, "mean", "(I)I"⟩
abbrev cX10_award : ByteArray := prog_12_method_62_code
def yX10_award : MethodName := ⟨RX10, "award", "(I)I"⟩
abbrev cX10_told : ByteArray := prog_12_method_63_code
def yX10_told : MethodName := ⟨RX10, "told", "(I)I"⟩
def RJ6 : String := "java/lang/Integer"
def TJ6 : u_T := fun k => match k with
  | _ => ("", "", "", false)
def tyJ6 : Nat → FieldType := fun k => match k with
  | _ => .int
abbrev wsJ60 : List Cond := u_ws RJ6 TJ6 0
theorem nmJ6 : ∀ a, a < 0 → ∀ b, b < 0 → a ≠ b → (TJ6 a).2.1 ≠ (TJ6 b).2.1 := by decide +kernel
theorem tyJ6_ok : ∀ k, k < 0 → parseFieldDescriptor (TJ6 k).2.2.1 = some (tyJ6 k) := by decide +kernel
abbrev cJ6_bitCount_0f7a4 : ByteArray := prog_13_method_49_code
def yJ6_bitCount_0f7a4 : MethodName := ⟨RJ6, "bitCount", "(I)I"⟩
def RJ9 : String := "java/lang/Math"
def TJ9 : u_T := fun k => match k with
  | _ => ("", "", "", false)
def tyJ9 : Nat → FieldType := fun k => match k with
  | _ => .int
abbrev wsJ90 : List Cond := u_ws RJ9 TJ9 0
theorem nmJ9 : ∀ a, a < 0 → ∀ b, b < 0 → a ≠ b → (TJ9 a).2.1 ≠ (TJ9 b).2.1 := by decide +kernel
theorem tyJ9_ok : ∀ k, k < 0 → parseFieldDescriptor (TJ9 k).2.2.1 = some (tyJ9 k) := by decide +kernel
abbrev cJ9_max_7cf53 : ByteArray := prog_14_method_65_code
def yJ9_max_7cf53 : MethodName := ⟨RJ9, "max", "(II)I"⟩
abbrev cJ9_min_7cf53 : ByteArray := prog_14_method_69_code
def yJ9_min_7cf53 : MethodName := ⟨RJ9, "min", "(II)I"⟩
def RJ0 : String := "java/lang/String"
def TJ0 : u_T := fun k => match k with
  | _ => ("", "", "", false)
def tyJ0 : Nat → FieldType := fun k => match k with
  | _ => .int
abbrev wsJ00 : List Cond := u_ws RJ0 TJ0 0
theorem nmJ0 : ∀ a, a < 0 → ∀ b, b < 0 → a ≠ b → (TJ0 a).2.1 ≠ (TJ0 b).2.1 := by decide +kernel
theorem tyJ0_ok : ∀ k, k < 0 → parseFieldDescriptor (TJ0 k).2.2.1 = some (tyJ0 k) := by decide +kernel
abbrev cJ0_length_8abf5 : ByteArray := prog_15_method_54_code
def yJ0_length_8abf5 : MethodName := ⟨RJ0, "length", "()I"⟩
abbrev cJ0_charAt_5068e : ByteArray := prog_15_method_56_code
def yJ0_charAt_5068e : MethodName := ⟨RJ0, "charAt", "(I)C"⟩
abbrev cJ0_coder_7d493 : ByteArray := prog_15_method_152_code
def yJ0_coder_7d493 : MethodName := ⟨RJ0, "coder", "()B"⟩
abbrev cJ0_isLatin1_aae02 : ByteArray := prog_15_method_154_code
def yJ0_isLatin1_aae02 : MethodName := ⟨RJ0, "isLatin1", "()Z"⟩
abbrev cJ0_checkIndex_df160 : ByteArray := prog_15_method_155_code
def yJ0_checkIndex_df160 : MethodName := ⟨RJ0, "checkIndex", "(II)V"⟩
def RJ1 : String := "java/lang/StringLatin1"
def TJ1 : u_T := fun k => match k with
  | _ => ("", "", "", false)
def tyJ1 : Nat → FieldType := fun k => match k with
  | _ => .int
abbrev wsJ10 : List Cond := u_ws RJ1 TJ1 0
theorem nmJ1 : ∀ a, a < 0 → ∀ b, b < 0 → a ≠ b → (TJ1 a).2.1 ≠ (TJ1 b).2.1 := by decide +kernel
theorem tyJ1_ok : ∀ k, k < 0 → parseFieldDescriptor (TJ1 k).2.2.1 = some (tyJ1 k) := by decide +kernel
abbrev cJ1_charAt_3b067 : ByteArray := prog_16_method_2_code
def yJ1_charAt_3b067 : MethodName := ⟨RJ1, "charAt", "([BI)C"⟩
def RJ2 : String := "java/lang/StringUTF16"
def TJ2 : u_T := fun k => match k with
  | _ => ("", "", "", false)
def tyJ2 : Nat → FieldType := fun k => match k with
  | _ => .int
abbrev wsJ20 : List Cond := u_ws RJ2 TJ2 0
theorem nmJ2 : ∀ a, a < 0 → ∀ b, b < 0 → a ≠ b → (TJ2 a).2.1 ≠ (TJ2 b).2.1 := by decide +kernel
theorem tyJ2_ok : ∀ k, k < 0 → parseFieldDescriptor (TJ2 k).2.2.1 = some (tyJ2 k) := by decide +kernel
abbrev cJ2_getChar_3b067 : ByteArray := prog_17_method_5_code
def yJ2_getChar_3b067 : MethodName := ⟨RJ2, "getChar", "([BI)C"⟩
abbrev cJ2_length_9d52b : ByteArray := prog_17_method_6_code
def yJ2_length_9d52b : MethodName := ⟨RJ2, "length", "([B)I"⟩
abbrev cJ2_charAt_3b067 : ByteArray := prog_17_method_83_code
def yJ2_charAt_3b067 : MethodName := ⟨RJ2, "charAt", "([BI)C"⟩
abbrev cJ2_checkIndex_2214a : ByteArray := prog_17_method_91_code
def yJ2_checkIndex_2214a : MethodName := ⟨RJ2, "checkIndex", "(I[B)V"⟩
def RJ3 : String := "jdk/internal/util/Preconditions"
def TJ3 : u_T := fun k => match k with
  | _ => ("", "", "", false)
def tyJ3 : Nat → FieldType := fun k => match k with
  | _ => .int
abbrev wsJ30 : List Cond := u_ws RJ3 TJ3 0
theorem nmJ3 : ∀ a, a < 0 → ∀ b, b < 0 → a ≠ b → (TJ3 a).2.1 ≠ (TJ3 b).2.1 := by decide +kernel
theorem tyJ3_ok : ∀ k, k < 0 → parseFieldDescriptor (TJ3 k).2.2.1 = some (tyJ3 k) := by decide +kernel
abbrev cJ3_checkIndex_8e157 : ByteArray := prog_18_method_11_code
def yJ3_checkIndex_8e157 : MethodName := ⟨RJ3, "checkIndex", "(IILjava/util/function/BiFunction;)I"⟩
def RL : String := "DebateHouseLaw"
abbrev cL_law : ByteArray := code
def yL_law : MethodName := ⟨RL, "law", "([I)Z"⟩
theorem inJ6 : ∀ w ∈ wsJ60, w ∈ lw_tbl := by decide +kernel
theorem inJ9 : ∀ w ∈ wsJ90, w ∈ lw_tbl := by decide +kernel
theorem inJ0 : ∀ w ∈ wsJ00, w ∈ lw_tbl := by decide +kernel
theorem inJ1 : ∀ w ∈ wsJ10, w ∈ lw_tbl := by decide +kernel
theorem inJ2 : ∀ w ∈ wsJ20, w ∈ lw_tbl := by decide +kernel
theorem inJ3 : ∀ w ∈ wsJ30, w ∈ lw_tbl := by decide +kernel
abbrev vwCl : List vw_C := [(RX0, TX0, 8), (RX1, TX1, 4), (RX2, TX2, 6), (RX3, TX3, 9), (RX4, TX4, 6), (RX5, TX5, 5), (RX6, TX6, 8), (RX7, TX7, 16), (RX8, TX8, 2), (RX9, TX9, 10), (RX10, TX10, 61)]
end
section
theorem dX0_init_0 : decode cX0_init 0 = .ok (.aload_n 0, 1) := by decide +kernel
theorem dX0_init_1 : decode cX0_init 1 = .ok (.invokespecial 3, 3) := by decide +kernel
theorem dX0_init_4 : decode cX0_init 4 = .ok (.aload_n 0, 1) := by decide +kernel
theorem dX0_init_5 : decode cX0_init 5 = .ok (.bipush 24, 2) := by decide +kernel
theorem dX0_init_7 : decode cX0_init 7 = .ok (.newarray .int, 2) := by decide +kernel
theorem dX0_init_9 : decode cX0_init 9 = .ok (.putfield 9, 3) := by decide +kernel
theorem dX0_init_12 : decode cX0_init 12 = .ok (.aload_n 0, 1) := by decide +kernel
theorem dX0_init_13 : decode cX0_init 13 = .ok (.bipush 24, 2) := by decide +kernel
theorem dX0_init_15 : decode cX0_init 15 = .ok (.newarray .int, 2) := by decide +kernel
theorem dX0_init_17 : decode cX0_init 17 = .ok (.putfield 15, 3) := by decide +kernel
theorem dX0_init_20 : decode cX0_init 20 = .ok (.aload_n 0, 1) := by decide +kernel
theorem dX0_init_21 : decode cX0_init 21 = .ok (.iconst (-1), 1) := by decide +kernel
theorem dX0_init_22 : decode cX0_init 22 = .ok (.putfield 18, 3) := by decide +kernel
theorem dX0_init_25 : decode cX0_init 25 = .ok (.aload_n 0, 1) := by decide +kernel
theorem dX0_init_26 : decode cX0_init 26 = .ok (.aload_n 1, 1) := by decide +kernel
theorem dX0_init_27 : decode cX0_init 27 = .ok (.putfield 22, 3) := by decide +kernel
theorem dX0_init_30 : decode cX0_init 30 = .ok (.aload_n 0, 1) := by decide +kernel
theorem dX0_init_31 : decode cX0_init 31 = .ok (.aload_n 2, 1) := by decide +kernel
theorem dX0_init_32 : decode cX0_init 32 = .ok (.putfield 26, 3) := by decide +kernel
theorem dX0_init_35 : decode cX0_init 35 = .ok (.return_, 1) := by decide +kernel
theorem dX0_clear_0 : decode cX0_clear 0 = .ok (.iconst 0, 1) := by decide +kernel
theorem dX0_clear_1 : decode cX0_clear 1 = .ok (.istore_n 1, 1) := by decide +kernel
theorem dX0_clear_2 : decode cX0_clear 2 = .ok (.iload_n 1, 1) := by decide +kernel
theorem dX0_clear_3 : decode cX0_clear 3 = .ok (.bipush 24, 2) := by decide +kernel
theorem dX0_clear_5 : decode cX0_clear 5 = .ok (.if_icmp .ge 16, 3) := by decide +kernel
theorem dX0_clear_8 : decode cX0_clear 8 = .ok (.aload_n 0, 1) := by decide +kernel
theorem dX0_clear_9 : decode cX0_clear 9 = .ok (.getfield 15, 3) := by decide +kernel
theorem dX0_clear_12 : decode cX0_clear 12 = .ok (.iload_n 1, 1) := by decide +kernel
theorem dX0_clear_13 : decode cX0_clear 13 = .ok (.iconst 0, 1) := by decide +kernel
theorem dX0_clear_14 : decode cX0_clear 14 = .ok (.iastore, 1) := by decide +kernel
theorem dX0_clear_15 : decode cX0_clear 15 = .ok (.iinc 1 1, 3) := by decide +kernel
theorem dX0_clear_18 : decode cX0_clear 18 = .ok (.goto (-16), 3) := by decide +kernel
theorem dX0_clear_21 : decode cX0_clear 21 = .ok (.aload_n 0, 1) := by decide +kernel
theorem dX0_clear_22 : decode cX0_clear 22 = .ok (.iconst 0, 1) := by decide +kernel
theorem dX0_clear_23 : decode cX0_clear 23 = .ok (.putfield 29, 3) := by decide +kernel
theorem dX0_clear_26 : decode cX0_clear 26 = .ok (.aload_n 0, 1) := by decide +kernel
theorem dX0_clear_27 : decode cX0_clear 27 = .ok (.invokevirtual 32, 3) := by decide +kernel
theorem dX0_clear_30 : decode cX0_clear 30 = .ok (.return_, 1) := by decide +kernel
theorem dX0_copyFrom_0 : decode cX0_copyFrom 0 = .ok (.iconst 0, 1) := by decide +kernel
theorem dX0_copyFrom_1 : decode cX0_copyFrom 1 = .ok (.istore_n 2, 1) := by decide +kernel
theorem dX0_copyFrom_2 : decode cX0_copyFrom 2 = .ok (.iload_n 2, 1) := by decide +kernel
theorem dX0_copyFrom_3 : decode cX0_copyFrom 3 = .ok (.bipush 24, 2) := by decide +kernel
theorem dX0_copyFrom_5 : decode cX0_copyFrom 5 = .ok (.if_icmp .ge 33, 3) := by decide +kernel
theorem dX0_copyFrom_8 : decode cX0_copyFrom 8 = .ok (.aload_n 0, 1) := by decide +kernel
theorem dX0_copyFrom_9 : decode cX0_copyFrom 9 = .ok (.getfield 9, 3) := by decide +kernel
theorem dX0_copyFrom_12 : decode cX0_copyFrom 12 = .ok (.iload_n 2, 1) := by decide +kernel
theorem dX0_copyFrom_13 : decode cX0_copyFrom 13 = .ok (.aload_n 1, 1) := by decide +kernel
theorem dX0_copyFrom_14 : decode cX0_copyFrom 14 = .ok (.getfield 9, 3) := by decide +kernel
theorem dX0_copyFrom_17 : decode cX0_copyFrom 17 = .ok (.iload_n 2, 1) := by decide +kernel
theorem dX0_copyFrom_18 : decode cX0_copyFrom 18 = .ok (.iaload, 1) := by decide +kernel
theorem dX0_copyFrom_19 : decode cX0_copyFrom 19 = .ok (.iastore, 1) := by decide +kernel
theorem dX0_copyFrom_20 : decode cX0_copyFrom 20 = .ok (.aload_n 0, 1) := by decide +kernel
theorem dX0_copyFrom_21 : decode cX0_copyFrom 21 = .ok (.getfield 15, 3) := by decide +kernel
theorem dX0_copyFrom_24 : decode cX0_copyFrom 24 = .ok (.iload_n 2, 1) := by decide +kernel
theorem dX0_copyFrom_25 : decode cX0_copyFrom 25 = .ok (.aload_n 1, 1) := by decide +kernel
theorem dX0_copyFrom_26 : decode cX0_copyFrom 26 = .ok (.getfield 15, 3) := by decide +kernel
theorem dX0_copyFrom_29 : decode cX0_copyFrom 29 = .ok (.iload_n 2, 1) := by decide +kernel
theorem dX0_copyFrom_30 : decode cX0_copyFrom 30 = .ok (.iaload, 1) := by decide +kernel
theorem dX0_copyFrom_31 : decode cX0_copyFrom 31 = .ok (.iastore, 1) := by decide +kernel
theorem dX0_copyFrom_32 : decode cX0_copyFrom 32 = .ok (.iinc 2 1, 3) := by decide +kernel
theorem dX0_copyFrom_35 : decode cX0_copyFrom 35 = .ok (.goto (-33), 3) := by decide +kernel
theorem dX0_copyFrom_38 : decode cX0_copyFrom 38 = .ok (.aload_n 0, 1) := by decide +kernel
theorem dX0_copyFrom_39 : decode cX0_copyFrom 39 = .ok (.aload_n 1, 1) := by decide +kernel
theorem dX0_copyFrom_40 : decode cX0_copyFrom 40 = .ok (.getfield 29, 3) := by decide +kernel
theorem dX0_copyFrom_43 : decode cX0_copyFrom 43 = .ok (.putfield 29, 3) := by decide +kernel
theorem dX0_copyFrom_46 : decode cX0_copyFrom 46 = .ok (.aload_n 0, 1) := by decide +kernel
theorem dX0_copyFrom_47 : decode cX0_copyFrom 47 = .ok (.aload_n 1, 1) := by decide +kernel
theorem dX0_copyFrom_48 : decode cX0_copyFrom 48 = .ok (.getfield 18, 3) := by decide +kernel
theorem dX0_copyFrom_51 : decode cX0_copyFrom 51 = .ok (.putfield 18, 3) := by decide +kernel
theorem dX0_copyFrom_54 : decode cX0_copyFrom 54 = .ok (.aload_n 0, 1) := by decide +kernel
theorem dX0_copyFrom_55 : decode cX0_copyFrom 55 = .ok (.aload_n 1, 1) := by decide +kernel
theorem dX0_copyFrom_56 : decode cX0_copyFrom 56 = .ok (.getfield 35, 3) := by decide +kernel
theorem dX0_copyFrom_59 : decode cX0_copyFrom 59 = .ok (.putfield 35, 3) := by decide +kernel
theorem dX0_copyFrom_62 : decode cX0_copyFrom 62 = .ok (.aload_n 0, 1) := by decide +kernel
theorem dX0_copyFrom_63 : decode cX0_copyFrom 63 = .ok (.aload_n 1, 1) := by decide +kernel
theorem dX0_copyFrom_64 : decode cX0_copyFrom 64 = .ok (.getfield 38, 3) := by decide +kernel
theorem dX0_copyFrom_67 : decode cX0_copyFrom 67 = .ok (.putfield 38, 3) := by decide +kernel
theorem dX0_copyFrom_70 : decode cX0_copyFrom 70 = .ok (.return_, 1) := by decide +kernel
theorem dX0_setFree_0 : decode cX0_setFree 0 = .ok (.aload_n 0, 1) := by decide +kernel
theorem dX0_setFree_1 : decode cX0_setFree 1 = .ok (.iconst (-1), 1) := by decide +kernel
theorem dX0_setFree_2 : decode cX0_setFree 2 = .ok (.putfield 18, 3) := by decide +kernel
theorem dX0_setFree_5 : decode cX0_setFree 5 = .ok (.aload_n 0, 1) := by decide +kernel
theorem dX0_setFree_6 : decode cX0_setFree 6 = .ok (.iconst 0, 1) := by decide +kernel
theorem dX0_setFree_7 : decode cX0_setFree 7 = .ok (.putfield 35, 3) := by decide +kernel
theorem dX0_setFree_10 : decode cX0_setFree 10 = .ok (.aload_n 0, 1) := by decide +kernel
theorem dX0_setFree_11 : decode cX0_setFree 11 = .ok (.iconst 0, 1) := by decide +kernel
theorem dX0_setFree_12 : decode cX0_setFree 12 = .ok (.putfield 38, 3) := by decide +kernel
theorem dX0_setFree_15 : decode cX0_setFree 15 = .ok (.return_, 1) := by decide +kernel
theorem dX0_queuePlaceOf_0 : decode cX0_queuePlaceOf 0 = .ok (.iconst 0, 1) := by decide +kernel
theorem dX0_queuePlaceOf_1 : decode cX0_queuePlaceOf 1 = .ok (.istore_n 2, 1) := by decide +kernel
theorem dX0_queuePlaceOf_2 : decode cX0_queuePlaceOf 2 = .ok (.iload_n 2, 1) := by decide +kernel
theorem dX0_queuePlaceOf_3 : decode cX0_queuePlaceOf 3 = .ok (.aload_n 0, 1) := by decide +kernel
theorem dX0_queuePlaceOf_4 : decode cX0_queuePlaceOf 4 = .ok (.getfield 29, 3) := by decide +kernel
theorem dX0_queuePlaceOf_7 : decode cX0_queuePlaceOf 7 = .ok (.if_icmp .ge 27, 3) := by decide +kernel
theorem dX0_queuePlaceOf_10 : decode cX0_queuePlaceOf 10 = .ok (.iload_n 2, 1) := by decide +kernel
theorem dX0_queuePlaceOf_11 : decode cX0_queuePlaceOf 11 = .ok (.bipush 24, 2) := by decide +kernel
theorem dX0_queuePlaceOf_13 : decode cX0_queuePlaceOf 13 = .ok (.if_icmp .ge 21, 3) := by decide +kernel
theorem dX0_queuePlaceOf_16 : decode cX0_queuePlaceOf 16 = .ok (.aload_n 0, 1) := by decide +kernel
theorem dX0_queuePlaceOf_17 : decode cX0_queuePlaceOf 17 = .ok (.getfield 9, 3) := by decide +kernel
theorem dX0_queuePlaceOf_20 : decode cX0_queuePlaceOf 20 = .ok (.iload_n 2, 1) := by decide +kernel
theorem dX0_queuePlaceOf_21 : decode cX0_queuePlaceOf 21 = .ok (.iaload, 1) := by decide +kernel
theorem dX0_queuePlaceOf_22 : decode cX0_queuePlaceOf 22 = .ok (.iload_n 1, 1) := by decide +kernel
theorem dX0_queuePlaceOf_23 : decode cX0_queuePlaceOf 23 = .ok (.if_icmp .ne 5, 3) := by decide +kernel
theorem dX0_queuePlaceOf_26 : decode cX0_queuePlaceOf 26 = .ok (.iload_n 2, 1) := by decide +kernel
theorem dX0_queuePlaceOf_27 : decode cX0_queuePlaceOf 27 = .ok (.ireturn, 1) := by decide +kernel
theorem dX0_queuePlaceOf_28 : decode cX0_queuePlaceOf 28 = .ok (.iinc 2 1, 3) := by decide +kernel
theorem dX0_queuePlaceOf_31 : decode cX0_queuePlaceOf 31 = .ok (.goto (-29), 3) := by decide +kernel
theorem dX0_queuePlaceOf_34 : decode cX0_queuePlaceOf 34 = .ok (.iconst (-1), 1) := by decide +kernel
theorem dX0_queuePlaceOf_35 : decode cX0_queuePlaceOf 35 = .ok (.ireturn, 1) := by decide +kernel
theorem dX0_mayAsk_0 : decode cX0_mayAsk 0 = .ok (.aload_n 0, 1) := by decide +kernel
theorem dX0_mayAsk_1 : decode cX0_mayAsk 1 = .ok (.iload_n 1, 1) := by decide +kernel
theorem dX0_mayAsk_2 : decode cX0_mayAsk 2 = .ok (.invokevirtual 42, 3) := by decide +kernel
theorem dX0_mayAsk_5 : decode cX0_mayAsk 5 = .ok (.iconst (-1), 1) := by decide +kernel
theorem dX0_mayAsk_6 : decode cX0_mayAsk 6 = .ok (.if_icmp .ne 15, 3) := by decide +kernel
theorem dX0_mayAsk_9 : decode cX0_mayAsk 9 = .ok (.aload_n 0, 1) := by decide +kernel
theorem dX0_mayAsk_10 : decode cX0_mayAsk 10 = .ok (.getfield 18, 3) := by decide +kernel
theorem dX0_mayAsk_13 : decode cX0_mayAsk 13 = .ok (.iload_n 1, 1) := by decide +kernel
theorem dX0_mayAsk_14 : decode cX0_mayAsk 14 = .ok (.if_icmp .eq 7, 3) := by decide +kernel
theorem dX0_mayAsk_17 : decode cX0_mayAsk 17 = .ok (.iconst 1, 1) := by decide +kernel
theorem dX0_mayAsk_18 : decode cX0_mayAsk 18 = .ok (.goto 4, 3) := by decide +kernel
theorem dX0_mayAsk_21 : decode cX0_mayAsk 21 = .ok (.iconst 0, 1) := by decide +kernel
theorem dX0_mayAsk_22 : decode cX0_mayAsk 22 = .ok (.ireturn, 1) := by decide +kernel
theorem dX0_mayYieldTo_0 : decode cX0_mayYieldTo 0 = .ok (.aload_n 0, 1) := by decide +kernel
theorem dX0_mayYieldTo_1 : decode cX0_mayYieldTo 1 = .ok (.getfield 22, 3) := by decide +kernel
theorem dX0_mayYieldTo_4 : decode cX0_mayYieldTo 4 = .ok (.getfield 46, 3) := by decide +kernel
theorem dX0_mayYieldTo_7 : decode cX0_mayYieldTo 7 = .ok (.ifCond .eq 30, 3) := by decide +kernel
theorem dX0_mayYieldTo_10 : decode cX0_mayYieldTo 10 = .ok (.aload_n 0, 1) := by decide +kernel
theorem dX0_mayYieldTo_11 : decode cX0_mayYieldTo 11 = .ok (.getfield 18, 3) := by decide +kernel
theorem dX0_mayYieldTo_14 : decode cX0_mayYieldTo 14 = .ok (.iconst (-1), 1) := by decide +kernel
theorem dX0_mayYieldTo_15 : decode cX0_mayYieldTo 15 = .ok (.if_icmp .eq 22, 3) := by decide +kernel
theorem dX0_mayYieldTo_18 : decode cX0_mayYieldTo 18 = .ok (.aload_n 0, 1) := by decide +kernel
theorem dX0_mayYieldTo_19 : decode cX0_mayYieldTo 19 = .ok (.getfield 18, 3) := by decide +kernel
theorem dX0_mayYieldTo_22 : decode cX0_mayYieldTo 22 = .ok (.iload_n 1, 1) := by decide +kernel
theorem dX0_mayYieldTo_23 : decode cX0_mayYieldTo 23 = .ok (.if_icmp .eq 14, 3) := by decide +kernel
theorem dX0_mayYieldTo_26 : decode cX0_mayYieldTo 26 = .ok (.aload_n 0, 1) := by decide +kernel
theorem dX0_mayYieldTo_27 : decode cX0_mayYieldTo 27 = .ok (.getfield 38, 3) := by decide +kernel
theorem dX0_mayYieldTo_30 : decode cX0_mayYieldTo 30 = .ok (.ifCond .ne 7, 3) := by decide +kernel
theorem dX0_mayYieldTo_33 : decode cX0_mayYieldTo 33 = .ok (.iconst 1, 1) := by decide +kernel
theorem dX0_mayYieldTo_34 : decode cX0_mayYieldTo 34 = .ok (.goto 4, 3) := by decide +kernel
theorem dX0_mayYieldTo_37 : decode cX0_mayYieldTo 37 = .ok (.iconst 0, 1) := by decide +kernel
theorem dX0_mayYieldTo_38 : decode cX0_mayYieldTo 38 = .ok (.ireturn, 1) := by decide +kernel
theorem dX0_enqueue_0 : decode cX0_enqueue 0 = .ok (.aload_n 0, 1) := by decide +kernel
theorem dX0_enqueue_1 : decode cX0_enqueue 1 = .ok (.getfield 29, 3) := by decide +kernel
theorem dX0_enqueue_4 : decode cX0_enqueue 4 = .ok (.ifCond .lt 32, 3) := by decide +kernel
theorem dX0_enqueue_7 : decode cX0_enqueue 7 = .ok (.aload_n 0, 1) := by decide +kernel
theorem dX0_enqueue_8 : decode cX0_enqueue 8 = .ok (.getfield 29, 3) := by decide +kernel
theorem dX0_enqueue_11 : decode cX0_enqueue 11 = .ok (.bipush 24, 2) := by decide +kernel
theorem dX0_enqueue_13 : decode cX0_enqueue 13 = .ok (.if_icmp .ge 23, 3) := by decide +kernel
theorem dX0_enqueue_16 : decode cX0_enqueue 16 = .ok (.aload_n 0, 1) := by decide +kernel
theorem dX0_enqueue_17 : decode cX0_enqueue 17 = .ok (.getfield 9, 3) := by decide +kernel
theorem dX0_enqueue_20 : decode cX0_enqueue 20 = .ok (.aload_n 0, 1) := by decide +kernel
theorem dX0_enqueue_21 : decode cX0_enqueue 21 = .ok (.getfield 29, 3) := by decide +kernel
theorem dX0_enqueue_24 : decode cX0_enqueue 24 = .ok (.iload_n 1, 1) := by decide +kernel
theorem dX0_enqueue_25 : decode cX0_enqueue 25 = .ok (.iastore, 1) := by decide +kernel
theorem dX0_enqueue_26 : decode cX0_enqueue 26 = .ok (.aload_n 0, 1) := by decide +kernel
theorem dX0_enqueue_27 : decode cX0_enqueue 27 = .ok (.dup, 1) := by decide +kernel
theorem dX0_enqueue_28 : decode cX0_enqueue 28 = .ok (.getfield 29, 3) := by decide +kernel
theorem dX0_enqueue_31 : decode cX0_enqueue 31 = .ok (.iconst 1, 1) := by decide +kernel
theorem dX0_enqueue_32 : decode cX0_enqueue 32 = .ok (.iadd, 1) := by decide +kernel
theorem dX0_enqueue_33 : decode cX0_enqueue 33 = .ok (.putfield 29, 3) := by decide +kernel
theorem dX0_enqueue_36 : decode cX0_enqueue 36 = .ok (.return_, 1) := by decide +kernel
theorem dX0_dequeue_0 : decode cX0_dequeue 0 = .ok (.iload_n 1, 1) := by decide +kernel
theorem dX0_dequeue_1 : decode cX0_dequeue 1 = .ok (.ifCond .lt 11, 3) := by decide +kernel
theorem dX0_dequeue_4 : decode cX0_dequeue 4 = .ok (.iload_n 1, 1) := by decide +kernel
theorem dX0_dequeue_5 : decode cX0_dequeue 5 = .ok (.aload_n 0, 1) := by decide +kernel
theorem dX0_dequeue_6 : decode cX0_dequeue 6 = .ok (.getfield 29, 3) := by decide +kernel
theorem dX0_dequeue_9 : decode cX0_dequeue 9 = .ok (.if_icmp .lt 4, 3) := by decide +kernel
theorem dX0_dequeue_12 : decode cX0_dequeue 12 = .ok (.return_, 1) := by decide +kernel
theorem dX0_dequeue_13 : decode cX0_dequeue 13 = .ok (.aload_n 0, 1) := by decide +kernel
theorem dX0_dequeue_14 : decode cX0_dequeue 14 = .ok (.dup, 1) := by decide +kernel
theorem dX0_dequeue_15 : decode cX0_dequeue 15 = .ok (.getfield 29, 3) := by decide +kernel
theorem dX0_dequeue_18 : decode cX0_dequeue 18 = .ok (.iconst 1, 1) := by decide +kernel
theorem dX0_dequeue_19 : decode cX0_dequeue 19 = .ok (.isub, 1) := by decide +kernel
theorem dX0_dequeue_20 : decode cX0_dequeue 20 = .ok (.putfield 29, 3) := by decide +kernel
theorem dX0_dequeue_23 : decode cX0_dequeue 23 = .ok (.iload_n 1, 1) := by decide +kernel
theorem dX0_dequeue_24 : decode cX0_dequeue 24 = .ok (.istore_n 2, 1) := by decide +kernel
theorem dX0_dequeue_25 : decode cX0_dequeue 25 = .ok (.iload_n 2, 1) := by decide +kernel
theorem dX0_dequeue_26 : decode cX0_dequeue 26 = .ok (.aload_n 0, 1) := by decide +kernel
theorem dX0_dequeue_27 : decode cX0_dequeue 27 = .ok (.getfield 29, 3) := by decide +kernel
theorem dX0_dequeue_30 : decode cX0_dequeue 30 = .ok (.if_icmp .ge 31, 3) := by decide +kernel
theorem dX0_dequeue_33 : decode cX0_dequeue 33 = .ok (.iload_n 2, 1) := by decide +kernel
theorem dX0_dequeue_34 : decode cX0_dequeue 34 = .ok (.iconst 1, 1) := by decide +kernel
theorem dX0_dequeue_35 : decode cX0_dequeue 35 = .ok (.iadd, 1) := by decide +kernel
theorem dX0_dequeue_36 : decode cX0_dequeue 36 = .ok (.bipush 24, 2) := by decide +kernel
theorem dX0_dequeue_38 : decode cX0_dequeue 38 = .ok (.if_icmp .ge 23, 3) := by decide +kernel
theorem dX0_dequeue_41 : decode cX0_dequeue 41 = .ok (.aload_n 0, 1) := by decide +kernel
theorem dX0_dequeue_42 : decode cX0_dequeue 42 = .ok (.getfield 9, 3) := by decide +kernel
theorem dX0_dequeue_45 : decode cX0_dequeue 45 = .ok (.iload_n 2, 1) := by decide +kernel
theorem dX0_dequeue_46 : decode cX0_dequeue 46 = .ok (.aload_n 0, 1) := by decide +kernel
theorem dX0_dequeue_47 : decode cX0_dequeue 47 = .ok (.getfield 9, 3) := by decide +kernel
theorem dX0_dequeue_50 : decode cX0_dequeue 50 = .ok (.iload_n 2, 1) := by decide +kernel
theorem dX0_dequeue_51 : decode cX0_dequeue 51 = .ok (.iconst 1, 1) := by decide +kernel
theorem dX0_dequeue_52 : decode cX0_dequeue 52 = .ok (.iadd, 1) := by decide +kernel
theorem dX0_dequeue_53 : decode cX0_dequeue 53 = .ok (.iaload, 1) := by decide +kernel
theorem dX0_dequeue_54 : decode cX0_dequeue 54 = .ok (.iastore, 1) := by decide +kernel
theorem dX0_dequeue_55 : decode cX0_dequeue 55 = .ok (.iinc 2 1, 3) := by decide +kernel
theorem dX0_dequeue_58 : decode cX0_dequeue 58 = .ok (.goto (-33), 3) := by decide +kernel
theorem dX0_dequeue_61 : decode cX0_dequeue 61 = .ok (.return_, 1) := by decide +kernel
theorem dX0_drop_0 : decode cX0_drop 0 = .ok (.aload_n 0, 1) := by decide +kernel
theorem dX0_drop_1 : decode cX0_drop 1 = .ok (.aload_n 0, 1) := by decide +kernel
theorem dX0_drop_2 : decode cX0_drop 2 = .ok (.iload_n 1, 1) := by decide +kernel
theorem dX0_drop_3 : decode cX0_drop 3 = .ok (.invokevirtual 42, 3) := by decide +kernel
theorem dX0_drop_6 : decode cX0_drop 6 = .ok (.invokevirtual 51, 3) := by decide +kernel
theorem dX0_drop_9 : decode cX0_drop 9 = .ok (.aload_n 0, 1) := by decide +kernel
theorem dX0_drop_10 : decode cX0_drop 10 = .ok (.getfield 18, 3) := by decide +kernel
theorem dX0_drop_13 : decode cX0_drop 13 = .ok (.iload_n 1, 1) := by decide +kernel
theorem dX0_drop_14 : decode cX0_drop 14 = .ok (.if_icmp .ne 7, 3) := by decide +kernel
theorem dX0_drop_17 : decode cX0_drop 17 = .ok (.aload_n 0, 1) := by decide +kernel
theorem dX0_drop_18 : decode cX0_drop 18 = .ok (.invokevirtual 32, 3) := by decide +kernel
theorem dX0_drop_21 : decode cX0_drop 21 = .ok (.return_, 1) := by decide +kernel
theorem dX0_callNext_0 : decode cX0_callNext 0 = .ok (.aload_n 0, 1) := by decide +kernel
theorem dX0_callNext_1 : decode cX0_callNext 1 = .ok (.invokevirtual 55, 3) := by decide +kernel
theorem dX0_callNext_4 : decode cX0_callNext 4 = .ok (.istore_n 2, 1) := by decide +kernel
theorem dX0_callNext_5 : decode cX0_callNext 5 = .ok (.iload_n 2, 1) := by decide +kernel
theorem dX0_callNext_6 : decode cX0_callNext 6 = .ok (.ifCond .lt 9, 3) := by decide +kernel
theorem dX0_callNext_9 : decode cX0_callNext 9 = .ok (.iload_n 2, 1) := by decide +kernel
theorem dX0_callNext_10 : decode cX0_callNext 10 = .ok (.bipush 24, 2) := by decide +kernel
theorem dX0_callNext_12 : decode cX0_callNext 12 = .ok (.if_icmp .lt 4, 3) := by decide +kernel
theorem dX0_callNext_15 : decode cX0_callNext 15 = .ok (.return_, 1) := by decide +kernel
theorem dX0_callNext_16 : decode cX0_callNext 16 = .ok (.aload_n 0, 1) := by decide +kernel
theorem dX0_callNext_17 : decode cX0_callNext 17 = .ok (.getfield 9, 3) := by decide +kernel
theorem dX0_callNext_20 : decode cX0_callNext 20 = .ok (.iload_n 2, 1) := by decide +kernel
theorem dX0_callNext_21 : decode cX0_callNext 21 = .ok (.iaload, 1) := by decide +kernel
theorem dX0_callNext_22 : decode cX0_callNext 22 = .ok (.istore_n 3, 1) := by decide +kernel
theorem dX0_callNext_23 : decode cX0_callNext 23 = .ok (.aload_n 0, 1) := by decide +kernel
theorem dX0_callNext_24 : decode cX0_callNext 24 = .ok (.iload_n 2, 1) := by decide +kernel
theorem dX0_callNext_25 : decode cX0_callNext 25 = .ok (.invokevirtual 51, 3) := by decide +kernel
theorem dX0_callNext_28 : decode cX0_callNext 28 = .ok (.aload_n 0, 1) := by decide +kernel
theorem dX0_callNext_29 : decode cX0_callNext 29 = .ok (.iload_n 3, 1) := by decide +kernel
theorem dX0_callNext_30 : decode cX0_callNext 30 = .ok (.putfield 18, 3) := by decide +kernel
theorem dX0_callNext_33 : decode cX0_callNext 33 = .ok (.aload_n 0, 1) := by decide +kernel
theorem dX0_callNext_34 : decode cX0_callNext 34 = .ok (.iload_n 1, 1) := by decide +kernel
theorem dX0_callNext_35 : decode cX0_callNext 35 = .ok (.putfield 35, 3) := by decide +kernel
theorem dX0_callNext_38 : decode cX0_callNext 38 = .ok (.aload_n 0, 1) := by decide +kernel
theorem dX0_callNext_39 : decode cX0_callNext 39 = .ok (.iconst 0, 1) := by decide +kernel
theorem dX0_callNext_40 : decode cX0_callNext 40 = .ok (.putfield 38, 3) := by decide +kernel
theorem dX0_callNext_43 : decode cX0_callNext 43 = .ok (.iload_n 3, 1) := by decide +kernel
theorem dX0_callNext_44 : decode cX0_callNext 44 = .ok (.invokestatic 59, 3) := by decide +kernel
theorem dX0_callNext_47 : decode cX0_callNext 47 = .ok (.ifCond .eq 13, 3) := by decide +kernel
theorem dX0_callNext_50 : decode cX0_callNext 50 = .ok (.aload_n 0, 1) := by decide +kernel
theorem dX0_callNext_51 : decode cX0_callNext 51 = .ok (.getfield 15, 3) := by decide +kernel
theorem dX0_callNext_54 : decode cX0_callNext 54 = .ok (.iload_n 3, 1) := by decide +kernel
theorem dX0_callNext_55 : decode cX0_callNext 55 = .ok (.dup2, 1) := by decide +kernel
theorem dX0_callNext_56 : decode cX0_callNext 56 = .ok (.iaload, 1) := by decide +kernel
theorem dX0_callNext_57 : decode cX0_callNext 57 = .ok (.iconst 1, 1) := by decide +kernel
theorem dX0_callNext_58 : decode cX0_callNext 58 = .ok (.iadd, 1) := by decide +kernel
theorem dX0_callNext_59 : decode cX0_callNext 59 = .ok (.iastore, 1) := by decide +kernel
theorem dX0_callNext_60 : decode cX0_callNext 60 = .ok (.return_, 1) := by decide +kernel
theorem dX0_yieldTo_0 : decode cX0_yieldTo 0 = .ok (.aload_n 0, 1) := by decide +kernel
theorem dX0_yieldTo_1 : decode cX0_yieldTo 1 = .ok (.iload_n 1, 1) := by decide +kernel
theorem dX0_yieldTo_2 : decode cX0_yieldTo 2 = .ok (.putfield 18, 3) := by decide +kernel
theorem dX0_yieldTo_5 : decode cX0_yieldTo 5 = .ok (.aload_n 0, 1) := by decide +kernel
theorem dX0_yieldTo_6 : decode cX0_yieldTo 6 = .ok (.iconst 1, 1) := by decide +kernel
theorem dX0_yieldTo_7 : decode cX0_yieldTo 7 = .ok (.putfield 38, 3) := by decide +kernel
theorem dX0_yieldTo_10 : decode cX0_yieldTo 10 = .ok (.return_, 1) := by decide +kernel
theorem dX0_spend_0 : decode cX0_spend 0 = .ok (.aload_n 0, 1) := by decide +kernel
theorem dX0_spend_1 : decode cX0_spend 1 = .ok (.iconst 0, 1) := by decide +kernel
theorem dX0_spend_2 : decode cX0_spend 2 = .ok (.aload_n 0, 1) := by decide +kernel
theorem dX0_spend_3 : decode cX0_spend 3 = .ok (.getfield 35, 3) := by decide +kernel
theorem dX0_spend_6 : decode cX0_spend 6 = .ok (.iload_n 1, 1) := by decide +kernel
theorem dX0_spend_7 : decode cX0_spend 7 = .ok (.isub, 1) := by decide +kernel
theorem dX0_spend_8 : decode cX0_spend 8 = .ok (.invokestatic 63, 3) := by decide +kernel
theorem dX0_spend_11 : decode cX0_spend 11 = .ok (.putfield 35, 3) := by decide +kernel
theorem dX0_spend_14 : decode cX0_spend 14 = .ok (.aload_n 0, 1) := by decide +kernel
theorem dX0_spend_15 : decode cX0_spend 15 = .ok (.getfield 35, 3) := by decide +kernel
theorem dX0_spend_18 : decode cX0_spend 18 = .ok (.ifCond .ne 7, 3) := by decide +kernel
theorem dX0_spend_21 : decode cX0_spend 21 = .ok (.aload_n 0, 1) := by decide +kernel
theorem dX0_spend_22 : decode cX0_spend 22 = .ok (.invokevirtual 32, 3) := by decide +kernel
theorem dX0_spend_25 : decode cX0_spend 25 = .ok (.return_, 1) := by decide +kernel
theorem dX0_nextPlace_0 : decode cX0_nextPlace 0 = .ok (.iconst (-1), 1) := by decide +kernel
theorem dX0_nextPlace_1 : decode cX0_nextPlace 1 = .ok (.istore_n 1, 1) := by decide +kernel
theorem dX0_nextPlace_2 : decode cX0_nextPlace 2 = .ok (.iconst 0, 1) := by decide +kernel
theorem dX0_nextPlace_3 : decode cX0_nextPlace 3 = .ok (.istore_n 2, 1) := by decide +kernel
theorem dX0_nextPlace_4 : decode cX0_nextPlace 4 = .ok (.iconst 0, 1) := by decide +kernel
theorem dX0_nextPlace_5 : decode cX0_nextPlace 5 = .ok (.istore_n 3, 1) := by decide +kernel
theorem dX0_nextPlace_6 : decode cX0_nextPlace 6 = .ok (.iload_n 3, 1) := by decide +kernel
theorem dX0_nextPlace_7 : decode cX0_nextPlace 7 = .ok (.aload_n 0, 1) := by decide +kernel
theorem dX0_nextPlace_8 : decode cX0_nextPlace 8 = .ok (.getfield 29, 3) := by decide +kernel
theorem dX0_nextPlace_11 : decode cX0_nextPlace 11 = .ok (.if_icmp .ge 43, 3) := by decide +kernel
theorem dX0_nextPlace_14 : decode cX0_nextPlace 14 = .ok (.iload_n 3, 1) := by decide +kernel
theorem dX0_nextPlace_15 : decode cX0_nextPlace 15 = .ok (.bipush 24, 2) := by decide +kernel
theorem dX0_nextPlace_17 : decode cX0_nextPlace 17 = .ok (.if_icmp .ge 37, 3) := by decide +kernel
theorem dX0_nextPlace_20 : decode cX0_nextPlace 20 = .ok (.aload_n 0, 1) := by decide +kernel
theorem dX0_nextPlace_21 : decode cX0_nextPlace 21 = .ok (.aload_n 0, 1) := by decide +kernel
theorem dX0_nextPlace_22 : decode cX0_nextPlace 22 = .ok (.getfield 9, 3) := by decide +kernel
theorem dX0_nextPlace_25 : decode cX0_nextPlace 25 = .ok (.iload_n 3, 1) := by decide +kernel
theorem dX0_nextPlace_26 : decode cX0_nextPlace 26 = .ok (.iaload, 1) := by decide +kernel
theorem dX0_nextPlace_27 : decode cX0_nextPlace 27 = .ok (.invokevirtual 69, 3) := by decide +kernel
theorem dX0_nextPlace_30 : decode cX0_nextPlace 30 = .ok (.istore 4, 2) := by decide +kernel
theorem dX0_nextPlace_32 : decode cX0_nextPlace 32 = .ok (.iload_n 1, 1) := by decide +kernel
theorem dX0_nextPlace_33 : decode cX0_nextPlace 33 = .ok (.iconst (-1), 1) := by decide +kernel
theorem dX0_nextPlace_34 : decode cX0_nextPlace 34 = .ok (.if_icmp .eq 9, 3) := by decide +kernel
theorem dX0_nextPlace_37 : decode cX0_nextPlace 37 = .ok (.iload 4, 2) := by decide +kernel
theorem dX0_nextPlace_39 : decode cX0_nextPlace 39 = .ok (.iload_n 2, 1) := by decide +kernel
theorem dX0_nextPlace_40 : decode cX0_nextPlace 40 = .ok (.if_icmp .ge 8, 3) := by decide +kernel
theorem dX0_nextPlace_43 : decode cX0_nextPlace 43 = .ok (.iload_n 3, 1) := by decide +kernel
theorem dX0_nextPlace_44 : decode cX0_nextPlace 44 = .ok (.istore_n 1, 1) := by decide +kernel
theorem dX0_nextPlace_45 : decode cX0_nextPlace 45 = .ok (.iload 4, 2) := by decide +kernel
theorem dX0_nextPlace_47 : decode cX0_nextPlace 47 = .ok (.istore_n 2, 1) := by decide +kernel
theorem dX0_nextPlace_48 : decode cX0_nextPlace 48 = .ok (.iinc 3 1, 3) := by decide +kernel
theorem dX0_nextPlace_51 : decode cX0_nextPlace 51 = .ok (.goto (-45), 3) := by decide +kernel
theorem dX0_nextPlace_54 : decode cX0_nextPlace 54 = .ok (.iload_n 1, 1) := by decide +kernel
theorem dX0_nextPlace_55 : decode cX0_nextPlace 55 = .ok (.ireturn, 1) := by decide +kernel
theorem dX0_countedSpeeches_0 : decode cX0_countedSpeeches 0 = .ok (.iload_n 1, 1) := by decide +kernel
theorem dX0_countedSpeeches_1 : decode cX0_countedSpeeches 1 = .ok (.invokestatic 59, 3) := by decide +kernel
theorem dX0_countedSpeeches_4 : decode cX0_countedSpeeches 4 = .ok (.ifCond .ne 5, 3) := by decide +kernel
theorem dX0_countedSpeeches_7 : decode cX0_countedSpeeches 7 = .ok (.iconst 0, 1) := by decide +kernel
theorem dX0_countedSpeeches_8 : decode cX0_countedSpeeches 8 = .ok (.ireturn, 1) := by decide +kernel
theorem dX0_countedSpeeches_9 : decode cX0_countedSpeeches 9 = .ok (.aload_n 0, 1) := by decide +kernel
theorem dX0_countedSpeeches_10 : decode cX0_countedSpeeches 10 = .ok (.getfield 22, 3) := by decide +kernel
theorem dX0_countedSpeeches_13 : decode cX0_countedSpeeches 13 = .ok (.getfield 72, 3) := by decide +kernel
theorem dX0_countedSpeeches_16 : decode cX0_countedSpeeches 16 = .ok (.ifCond .ne 10, 3) := by decide +kernel
theorem dX0_countedSpeeches_19 : decode cX0_countedSpeeches 19 = .ok (.aload_n 0, 1) := by decide +kernel
theorem dX0_countedSpeeches_20 : decode cX0_countedSpeeches 20 = .ok (.getfield 15, 3) := by decide +kernel
theorem dX0_countedSpeeches_23 : decode cX0_countedSpeeches 23 = .ok (.iload_n 1, 1) := by decide +kernel
theorem dX0_countedSpeeches_24 : decode cX0_countedSpeeches 24 = .ok (.iaload, 1) := by decide +kernel
theorem dX0_countedSpeeches_25 : decode cX0_countedSpeeches 25 = .ok (.ireturn, 1) := by decide +kernel
theorem dX0_countedSpeeches_26 : decode cX0_countedSpeeches 26 = .ok (.iconst 0, 1) := by decide +kernel
theorem dX0_countedSpeeches_27 : decode cX0_countedSpeeches 27 = .ok (.istore_n 2, 1) := by decide +kernel
theorem dX0_countedSpeeches_28 : decode cX0_countedSpeeches 28 = .ok (.iconst 0, 1) := by decide +kernel
theorem dX0_countedSpeeches_29 : decode cX0_countedSpeeches 29 = .ok (.istore_n 3, 1) := by decide +kernel
theorem dX0_countedSpeeches_30 : decode cX0_countedSpeeches 30 = .ok (.iload_n 3, 1) := by decide +kernel
theorem dX0_countedSpeeches_31 : decode cX0_countedSpeeches 31 = .ok (.bipush 24, 2) := by decide +kernel
theorem dX0_countedSpeeches_33 : decode cX0_countedSpeeches 33 = .ok (.if_icmp .ge 33, 3) := by decide +kernel
theorem dX0_countedSpeeches_36 : decode cX0_countedSpeeches 36 = .ok (.aload_n 0, 1) := by decide +kernel
theorem dX0_countedSpeeches_37 : decode cX0_countedSpeeches 37 = .ok (.getfield 26, 3) := by decide +kernel
theorem dX0_countedSpeeches_40 : decode cX0_countedSpeeches 40 = .ok (.iload_n 3, 1) := by decide +kernel
theorem dX0_countedSpeeches_41 : decode cX0_countedSpeeches 41 = .ok (.iaload, 1) := by decide +kernel
theorem dX0_countedSpeeches_42 : decode cX0_countedSpeeches 42 = .ok (.aload_n 0, 1) := by decide +kernel
theorem dX0_countedSpeeches_43 : decode cX0_countedSpeeches 43 = .ok (.getfield 26, 3) := by decide +kernel
theorem dX0_countedSpeeches_46 : decode cX0_countedSpeeches 46 = .ok (.iload_n 1, 1) := by decide +kernel
theorem dX0_countedSpeeches_47 : decode cX0_countedSpeeches 47 = .ok (.iaload, 1) := by decide +kernel
theorem dX0_countedSpeeches_48 : decode cX0_countedSpeeches 48 = .ok (.if_icmp .ne 12, 3) := by decide +kernel
theorem dX0_countedSpeeches_51 : decode cX0_countedSpeeches 51 = .ok (.iload_n 2, 1) := by decide +kernel
theorem dX0_countedSpeeches_52 : decode cX0_countedSpeeches 52 = .ok (.aload_n 0, 1) := by decide +kernel
theorem dX0_countedSpeeches_53 : decode cX0_countedSpeeches 53 = .ok (.getfield 15, 3) := by decide +kernel
theorem dX0_countedSpeeches_56 : decode cX0_countedSpeeches 56 = .ok (.iload_n 3, 1) := by decide +kernel
theorem dX0_countedSpeeches_57 : decode cX0_countedSpeeches 57 = .ok (.iaload, 1) := by decide +kernel
theorem dX0_countedSpeeches_58 : decode cX0_countedSpeeches 58 = .ok (.iadd, 1) := by decide +kernel
theorem dX0_countedSpeeches_59 : decode cX0_countedSpeeches 59 = .ok (.istore_n 2, 1) := by decide +kernel
theorem dX0_countedSpeeches_60 : decode cX0_countedSpeeches 60 = .ok (.iinc 3 1, 3) := by decide +kernel
theorem dX0_countedSpeeches_63 : decode cX0_countedSpeeches 63 = .ok (.goto (-33), 3) := by decide +kernel
theorem dX0_countedSpeeches_66 : decode cX0_countedSpeeches 66 = .ok (.iload_n 2, 1) := by decide +kernel
theorem dX0_countedSpeeches_67 : decode cX0_countedSpeeches 67 = .ok (.ireturn, 1) := by decide +kernel
theorem dX1_init_0 : decode cX1_init 0 = .ok (.aload_n 0, 1) := by decide +kernel
theorem dX1_init_1 : decode cX1_init 1 = .ok (.invokespecial 3, 3) := by decide +kernel
theorem dX1_init_4 : decode cX1_init 4 = .ok (.aload_n 0, 1) := by decide +kernel
theorem dX1_init_5 : decode cX1_init 5 = .ok (.bipush 6, 2) := by decide +kernel
theorem dX1_init_7 : decode cX1_init 7 = .ok (.newarray .int, 2) := by decide +kernel
theorem dX1_init_9 : decode cX1_init 9 = .ok (.putfield 9, 3) := by decide +kernel
theorem dX1_init_12 : decode cX1_init 12 = .ok (.aload_n 0, 1) := by decide +kernel
theorem dX1_init_13 : decode cX1_init 13 = .ok (.bipush 6, 2) := by decide +kernel
theorem dX1_init_15 : decode cX1_init 15 = .ok (.bipush 24, 2) := by decide +kernel
theorem dX1_init_17 : decode cX1_init 17 = .ok (.multianewarray 15 2, 4) := by decide +kernel
theorem dX1_init_21 : decode cX1_init 21 = .ok (.putfield 17, 3) := by decide +kernel
theorem dX1_init_24 : decode cX1_init 24 = .ok (.aload_n 0, 1) := by decide +kernel
theorem dX1_init_25 : decode cX1_init 25 = .ok (.bipush 24, 2) := by decide +kernel
theorem dX1_init_27 : decode cX1_init 27 = .ok (.newarray .int, 2) := by decide +kernel
theorem dX1_init_29 : decode cX1_init 29 = .ok (.putfield 20, 3) := by decide +kernel
theorem dX1_init_32 : decode cX1_init 32 = .ok (.aload_n 0, 1) := by decide +kernel
theorem dX1_init_33 : decode cX1_init 33 = .ok (.aload_n 1, 1) := by decide +kernel
theorem dX1_init_34 : decode cX1_init 34 = .ok (.putfield 23, 3) := by decide +kernel
theorem dX1_init_37 : decode cX1_init 37 = .ok (.iconst 0, 1) := by decide +kernel
theorem dX1_init_38 : decode cX1_init 38 = .ok (.istore_n 2, 1) := by decide +kernel
theorem dX1_init_39 : decode cX1_init 39 = .ok (.iload_n 2, 1) := by decide +kernel
theorem dX1_init_40 : decode cX1_init 40 = .ok (.bipush 6, 2) := by decide +kernel
theorem dX1_init_42 : decode cX1_init 42 = .ok (.if_icmp .ge 39, 3) := by decide +kernel
theorem dX1_init_45 : decode cX1_init 45 = .ok (.aload_n 0, 1) := by decide +kernel
theorem dX1_init_46 : decode cX1_init 46 = .ok (.getfield 9, 3) := by decide +kernel
theorem dX1_init_49 : decode cX1_init 49 = .ok (.iload_n 2, 1) := by decide +kernel
theorem dX1_init_50 : decode cX1_init 50 = .ok (.iconst (-1), 1) := by decide +kernel
theorem dX1_init_51 : decode cX1_init 51 = .ok (.iastore, 1) := by decide +kernel
theorem dX1_init_52 : decode cX1_init 52 = .ok (.iconst 0, 1) := by decide +kernel
theorem dX1_init_53 : decode cX1_init 53 = .ok (.istore_n 3, 1) := by decide +kernel
theorem dX1_init_54 : decode cX1_init 54 = .ok (.iload_n 3, 1) := by decide +kernel
theorem dX1_init_55 : decode cX1_init 55 = .ok (.bipush 24, 2) := by decide +kernel
theorem dX1_init_57 : decode cX1_init 57 = .ok (.if_icmp .ge 18, 3) := by decide +kernel
theorem dX1_init_60 : decode cX1_init 60 = .ok (.aload_n 0, 1) := by decide +kernel
theorem dX1_init_61 : decode cX1_init 61 = .ok (.getfield 17, 3) := by decide +kernel
theorem dX1_init_64 : decode cX1_init 64 = .ok (.iload_n 2, 1) := by decide +kernel
theorem dX1_init_65 : decode cX1_init 65 = .ok (.aaload, 1) := by decide +kernel
theorem dX1_init_66 : decode cX1_init 66 = .ok (.iload_n 3, 1) := by decide +kernel
theorem dX1_init_67 : decode cX1_init 67 = .ok (.iconst (-1), 1) := by decide +kernel
theorem dX1_init_68 : decode cX1_init 68 = .ok (.iastore, 1) := by decide +kernel
theorem dX1_init_69 : decode cX1_init 69 = .ok (.iinc 3 1, 3) := by decide +kernel
theorem dX1_init_72 : decode cX1_init 72 = .ok (.goto (-18), 3) := by decide +kernel
theorem dX1_init_75 : decode cX1_init 75 = .ok (.iinc 2 1, 3) := by decide +kernel
theorem dX1_init_78 : decode cX1_init 78 = .ok (.goto (-39), 3) := by decide +kernel
theorem dX1_init_81 : decode cX1_init 81 = .ok (.return_, 1) := by decide +kernel
theorem dX1_take_0 : decode cX1_take 0 = .ok (.iload_n 1, 1) := by decide +kernel
theorem dX1_take_1 : decode cX1_take 1 = .ok (.ifCond .lt 23, 3) := by decide +kernel
theorem dX1_take_4 : decode cX1_take 4 = .ok (.iload_n 1, 1) := by decide +kernel
theorem dX1_take_5 : decode cX1_take 5 = .ok (.bipush 6, 2) := by decide +kernel
theorem dX1_take_7 : decode cX1_take 7 = .ok (.if_icmp .ge 17, 3) := by decide +kernel
theorem dX1_take_10 : decode cX1_take 10 = .ok (.iload_n 2, 1) := by decide +kernel
theorem dX1_take_11 : decode cX1_take 11 = .ok (.invokestatic 26, 3) := by decide +kernel
theorem dX1_take_14 : decode cX1_take 14 = .ok (.ifCond .eq 10, 3) := by decide +kernel
theorem dX1_take_17 : decode cX1_take 17 = .ok (.iload_n 3, 1) := by decide +kernel
theorem dX1_take_18 : decode cX1_take 18 = .ok (.invokestatic 30, 3) := by decide +kernel
theorem dX1_take_21 : decode cX1_take 21 = .ok (.ifCond .ne 5, 3) := by decide +kernel
theorem dX1_take_24 : decode cX1_take 24 = .ok (.iconst 0, 1) := by decide +kernel
theorem dX1_take_25 : decode cX1_take 25 = .ok (.ireturn, 1) := by decide +kernel
theorem dX1_take_26 : decode cX1_take 26 = .ok (.iload 4, 2) := by decide +kernel
theorem dX1_take_28 : decode cX1_take 28 = .ok (.ifCond .lt 10, 3) := by decide +kernel
theorem dX1_take_31 : decode cX1_take 31 = .ok (.iload 4, 2) := by decide +kernel
theorem dX1_take_33 : decode cX1_take 33 = .ok (.bipush 100, 2) := by decide +kernel
theorem dX1_take_35 : decode cX1_take 35 = .ok (.if_icmp .le 5, 3) := by decide +kernel
theorem dX1_take_38 : decode cX1_take 38 = .ok (.iconst 0, 1) := by decide +kernel
theorem dX1_take_39 : decode cX1_take 39 = .ok (.ireturn, 1) := by decide +kernel
theorem dX1_take_40 : decode cX1_take 40 = .ok (.aload_n 0, 1) := by decide +kernel
theorem dX1_take_41 : decode cX1_take 41 = .ok (.getfield 9, 3) := by decide +kernel
theorem dX1_take_44 : decode cX1_take 44 = .ok (.iload_n 1, 1) := by decide +kernel
theorem dX1_take_45 : decode cX1_take 45 = .ok (.iaload, 1) := by decide +kernel
theorem dX1_take_46 : decode cX1_take 46 = .ok (.iconst (-1), 1) := by decide +kernel
theorem dX1_take_47 : decode cX1_take 47 = .ok (.if_icmp .eq 15, 3) := by decide +kernel
theorem dX1_take_50 : decode cX1_take 50 = .ok (.aload_n 0, 1) := by decide +kernel
theorem dX1_take_51 : decode cX1_take 51 = .ok (.getfield 9, 3) := by decide +kernel
theorem dX1_take_54 : decode cX1_take 54 = .ok (.iload_n 1, 1) := by decide +kernel
theorem dX1_take_55 : decode cX1_take 55 = .ok (.iaload, 1) := by decide +kernel
theorem dX1_take_56 : decode cX1_take 56 = .ok (.iload_n 2, 1) := by decide +kernel
theorem dX1_take_57 : decode cX1_take 57 = .ok (.if_icmp .eq 5, 3) := by decide +kernel
theorem dX1_take_60 : decode cX1_take 60 = .ok (.iconst 0, 1) := by decide +kernel
theorem dX1_take_61 : decode cX1_take 61 = .ok (.ireturn, 1) := by decide +kernel
theorem dX1_take_62 : decode cX1_take 62 = .ok (.aload_n 0, 1) := by decide +kernel
theorem dX1_take_63 : decode cX1_take 63 = .ok (.getfield 9, 3) := by decide +kernel
theorem dX1_take_66 : decode cX1_take 66 = .ok (.iload_n 1, 1) := by decide +kernel
theorem dX1_take_67 : decode cX1_take 67 = .ok (.iload_n 2, 1) := by decide +kernel
theorem dX1_take_68 : decode cX1_take 68 = .ok (.iastore, 1) := by decide +kernel
theorem dX1_take_69 : decode cX1_take 69 = .ok (.aload_n 0, 1) := by decide +kernel
theorem dX1_take_70 : decode cX1_take 70 = .ok (.getfield 17, 3) := by decide +kernel
theorem dX1_take_73 : decode cX1_take 73 = .ok (.iload_n 1, 1) := by decide +kernel
theorem dX1_take_74 : decode cX1_take 74 = .ok (.aaload, 1) := by decide +kernel
theorem dX1_take_75 : decode cX1_take 75 = .ok (.iload_n 3, 1) := by decide +kernel
theorem dX1_take_76 : decode cX1_take 76 = .ok (.iload 4, 2) := by decide +kernel
theorem dX1_take_78 : decode cX1_take 78 = .ok (.iastore, 1) := by decide +kernel
theorem dX1_take_79 : decode cX1_take 79 = .ok (.iconst 1, 1) := by decide +kernel
theorem dX1_take_80 : decode cX1_take 80 = .ok (.ireturn, 1) := by decide +kernel
theorem dX1_meanOf_0 : decode cX1_meanOf 0 = .ok (.iconst 0, 1) := by decide +kernel
theorem dX1_meanOf_1 : decode cX1_meanOf 1 = .ok (.istore_n 2, 1) := by decide +kernel
theorem dX1_meanOf_2 : decode cX1_meanOf 2 = .ok (.iconst 0, 1) := by decide +kernel
theorem dX1_meanOf_3 : decode cX1_meanOf 3 = .ok (.istore_n 3, 1) := by decide +kernel
theorem dX1_meanOf_4 : decode cX1_meanOf 4 = .ok (.iconst 0, 1) := by decide +kernel
theorem dX1_meanOf_5 : decode cX1_meanOf 5 = .ok (.istore 4, 2) := by decide +kernel
theorem dX1_meanOf_7 : decode cX1_meanOf 7 = .ok (.iload 4, 2) := by decide +kernel
theorem dX1_meanOf_9 : decode cX1_meanOf 9 = .ok (.bipush 6, 2) := by decide +kernel
theorem dX1_meanOf_11 : decode cX1_meanOf 11 = .ok (.if_icmp .ge 32, 3) := by decide +kernel
theorem dX1_meanOf_14 : decode cX1_meanOf 14 = .ok (.aload_n 0, 1) := by decide +kernel
theorem dX1_meanOf_15 : decode cX1_meanOf 15 = .ok (.iload 4, 2) := by decide +kernel
theorem dX1_meanOf_17 : decode cX1_meanOf 17 = .ok (.iload_n 1, 1) := by decide +kernel
theorem dX1_meanOf_18 : decode cX1_meanOf 18 = .ok (.invokevirtual 33, 3) := by decide +kernel
theorem dX1_meanOf_21 : decode cX1_meanOf 21 = .ok (.ifCond .eq 16, 3) := by decide +kernel
theorem dX1_meanOf_24 : decode cX1_meanOf 24 = .ok (.iload_n 2, 1) := by decide +kernel
theorem dX1_meanOf_25 : decode cX1_meanOf 25 = .ok (.aload_n 0, 1) := by decide +kernel
theorem dX1_meanOf_26 : decode cX1_meanOf 26 = .ok (.iload 4, 2) := by decide +kernel
theorem dX1_meanOf_28 : decode cX1_meanOf 28 = .ok (.iload_n 1, 1) := by decide +kernel
theorem dX1_meanOf_29 : decode cX1_meanOf 29 = .ok (.invokevirtual 37, 3) := by decide +kernel
theorem dX1_meanOf_32 : decode cX1_meanOf 32 = .ok (.iadd, 1) := by decide +kernel
theorem dX1_meanOf_33 : decode cX1_meanOf 33 = .ok (.istore_n 2, 1) := by decide +kernel
theorem dX1_meanOf_34 : decode cX1_meanOf 34 = .ok (.iinc 3 1, 3) := by decide +kernel
theorem dX1_meanOf_37 : decode cX1_meanOf 37 = .ok (.iinc 4 1, 3) := by decide +kernel
theorem dX1_meanOf_40 : decode cX1_meanOf 40 = .ok (.goto (-33), 3) := by decide +kernel
theorem dX1_meanOf_43 : decode cX1_meanOf 43 = .ok (.iload_n 3, 1) := by decide +kernel
theorem dX1_meanOf_44 : decode cX1_meanOf 44 = .ok (.ifCond .le 9, 3) := by decide +kernel
theorem dX1_meanOf_47 : decode cX1_meanOf 47 = .ok (.iload_n 2, 1) := by decide +kernel
theorem dX1_meanOf_48 : decode cX1_meanOf 48 = .ok (.iload_n 3, 1) := by decide +kernel
theorem dX1_meanOf_49 : decode cX1_meanOf 49 = .ok (.idiv, 1) := by decide +kernel
theorem dX1_meanOf_50 : decode cX1_meanOf 50 = .ok (.goto 4, 3) := by decide +kernel
theorem dX1_meanOf_53 : decode cX1_meanOf 53 = .ok (.iconst (-1), 1) := by decide +kernel
theorem dX1_meanOf_54 : decode cX1_meanOf 54 = .ok (.ireturn, 1) := by decide +kernel
theorem dX1_memberAt_0 : decode cX1_memberAt 0 = .ok (.iconst 0, 1) := by decide +kernel
theorem dX1_memberAt_1 : decode cX1_memberAt 1 = .ok (.istore_n 2, 1) := by decide +kernel
theorem dX1_memberAt_2 : decode cX1_memberAt 2 = .ok (.iload_n 2, 1) := by decide +kernel
theorem dX1_memberAt_3 : decode cX1_memberAt 3 = .ok (.bipush 24, 2) := by decide +kernel
theorem dX1_memberAt_5 : decode cX1_memberAt 5 = .ok (.if_icmp .ge 20, 3) := by decide +kernel
theorem dX1_memberAt_8 : decode cX1_memberAt 8 = .ok (.aload_n 0, 1) := by decide +kernel
theorem dX1_memberAt_9 : decode cX1_memberAt 9 = .ok (.getfield 20, 3) := by decide +kernel
theorem dX1_memberAt_12 : decode cX1_memberAt 12 = .ok (.iload_n 2, 1) := by decide +kernel
theorem dX1_memberAt_13 : decode cX1_memberAt 13 = .ok (.aload_n 0, 1) := by decide +kernel
theorem dX1_memberAt_14 : decode cX1_memberAt 14 = .ok (.iload_n 2, 1) := by decide +kernel
theorem dX1_memberAt_15 : decode cX1_memberAt 15 = .ok (.invokevirtual 41, 3) := by decide +kernel
theorem dX1_memberAt_18 : decode cX1_memberAt 18 = .ok (.iastore, 1) := by decide +kernel
theorem dX1_memberAt_19 : decode cX1_memberAt 19 = .ok (.iinc 2 1, 3) := by decide +kernel
theorem dX1_memberAt_22 : decode cX1_memberAt 22 = .ok (.goto (-20), 3) := by decide +kernel
theorem dX1_memberAt_25 : decode cX1_memberAt 25 = .ok (.iconst 0, 1) := by decide +kernel
theorem dX1_memberAt_26 : decode cX1_memberAt 26 = .ok (.istore_n 2, 1) := by decide +kernel
theorem dX1_memberAt_27 : decode cX1_memberAt 27 = .ok (.iload_n 2, 1) := by decide +kernel
theorem dX1_memberAt_28 : decode cX1_memberAt 28 = .ok (.bipush 24, 2) := by decide +kernel
theorem dX1_memberAt_30 : decode cX1_memberAt 30 = .ok (.if_icmp .ge 30, 3) := by decide +kernel
theorem dX1_memberAt_33 : decode cX1_memberAt 33 = .ok (.aload_n 0, 1) := by decide +kernel
theorem dX1_memberAt_34 : decode cX1_memberAt 34 = .ok (.getfield 20, 3) := by decide +kernel
theorem dX1_memberAt_37 : decode cX1_memberAt 37 = .ok (.iload_n 2, 1) := by decide +kernel
theorem dX1_memberAt_38 : decode cX1_memberAt 38 = .ok (.iaload, 1) := by decide +kernel
theorem dX1_memberAt_39 : decode cX1_memberAt 39 = .ok (.iconst (-1), 1) := by decide +kernel
theorem dX1_memberAt_40 : decode cX1_memberAt 40 = .ok (.if_icmp .eq 14, 3) := by decide +kernel
theorem dX1_memberAt_43 : decode cX1_memberAt 43 = .ok (.aload_n 0, 1) := by decide +kernel
theorem dX1_memberAt_44 : decode cX1_memberAt 44 = .ok (.iload_n 2, 1) := by decide +kernel
theorem dX1_memberAt_45 : decode cX1_memberAt 45 = .ok (.invokevirtual 45, 3) := by decide +kernel
theorem dX1_memberAt_48 : decode cX1_memberAt 48 = .ok (.iload_n 1, 1) := by decide +kernel
theorem dX1_memberAt_49 : decode cX1_memberAt 49 = .ok (.if_icmp .ne 5, 3) := by decide +kernel
theorem dX1_memberAt_52 : decode cX1_memberAt 52 = .ok (.iload_n 2, 1) := by decide +kernel
theorem dX1_memberAt_53 : decode cX1_memberAt 53 = .ok (.ireturn, 1) := by decide +kernel
theorem dX1_memberAt_54 : decode cX1_memberAt 54 = .ok (.iinc 2 1, 3) := by decide +kernel
theorem dX1_memberAt_57 : decode cX1_memberAt 57 = .ok (.goto (-30), 3) := by decide +kernel
theorem dX1_memberAt_60 : decode cX1_memberAt 60 = .ok (.iconst (-1), 1) := by decide +kernel
theorem dX1_memberAt_61 : decode cX1_memberAt 61 = .ok (.ireturn, 1) := by decide +kernel
theorem dX1_countAheadOf_0 : decode cX1_countAheadOf 0 = .ok (.iconst 0, 1) := by decide +kernel
theorem dX1_countAheadOf_1 : decode cX1_countAheadOf 1 = .ok (.istore_n 2, 1) := by decide +kernel
theorem dX1_countAheadOf_2 : decode cX1_countAheadOf 2 = .ok (.iconst 0, 1) := by decide +kernel
theorem dX1_countAheadOf_3 : decode cX1_countAheadOf 3 = .ok (.istore_n 3, 1) := by decide +kernel
theorem dX1_countAheadOf_4 : decode cX1_countAheadOf 4 = .ok (.iload_n 3, 1) := by decide +kernel
theorem dX1_countAheadOf_5 : decode cX1_countAheadOf 5 = .ok (.bipush 24, 2) := by decide +kernel
theorem dX1_countAheadOf_7 : decode cX1_countAheadOf 7 = .ok (.if_icmp .ge 47, 3) := by decide +kernel
theorem dX1_countAheadOf_10 : decode cX1_countAheadOf 10 = .ok (.aload_n 0, 1) := by decide +kernel
theorem dX1_countAheadOf_11 : decode cX1_countAheadOf 11 = .ok (.getfield 20, 3) := by decide +kernel
theorem dX1_countAheadOf_14 : decode cX1_countAheadOf 14 = .ok (.iload_n 3, 1) := by decide +kernel
theorem dX1_countAheadOf_15 : decode cX1_countAheadOf 15 = .ok (.iaload, 1) := by decide +kernel
theorem dX1_countAheadOf_16 : decode cX1_countAheadOf 16 = .ok (.aload_n 0, 1) := by decide +kernel
theorem dX1_countAheadOf_17 : decode cX1_countAheadOf 17 = .ok (.getfield 20, 3) := by decide +kernel
theorem dX1_countAheadOf_20 : decode cX1_countAheadOf 20 = .ok (.iload_n 1, 1) := by decide +kernel
theorem dX1_countAheadOf_21 : decode cX1_countAheadOf 21 = .ok (.iaload, 1) := by decide +kernel
theorem dX1_countAheadOf_22 : decode cX1_countAheadOf 22 = .ok (.if_icmp .gt 23, 3) := by decide +kernel
theorem dX1_countAheadOf_25 : decode cX1_countAheadOf 25 = .ok (.aload_n 0, 1) := by decide +kernel
theorem dX1_countAheadOf_26 : decode cX1_countAheadOf 26 = .ok (.getfield 20, 3) := by decide +kernel
theorem dX1_countAheadOf_29 : decode cX1_countAheadOf 29 = .ok (.iload_n 3, 1) := by decide +kernel
theorem dX1_countAheadOf_30 : decode cX1_countAheadOf 30 = .ok (.iaload, 1) := by decide +kernel
theorem dX1_countAheadOf_31 : decode cX1_countAheadOf 31 = .ok (.aload_n 0, 1) := by decide +kernel
theorem dX1_countAheadOf_32 : decode cX1_countAheadOf 32 = .ok (.getfield 20, 3) := by decide +kernel
theorem dX1_countAheadOf_35 : decode cX1_countAheadOf 35 = .ok (.iload_n 1, 1) := by decide +kernel
theorem dX1_countAheadOf_36 : decode cX1_countAheadOf 36 = .ok (.iaload, 1) := by decide +kernel
theorem dX1_countAheadOf_37 : decode cX1_countAheadOf 37 = .ok (.if_icmp .ne 11, 3) := by decide +kernel
theorem dX1_countAheadOf_40 : decode cX1_countAheadOf 40 = .ok (.iload_n 3, 1) := by decide +kernel
theorem dX1_countAheadOf_41 : decode cX1_countAheadOf 41 = .ok (.iload_n 1, 1) := by decide +kernel
theorem dX1_countAheadOf_42 : decode cX1_countAheadOf 42 = .ok (.if_icmp .ge 6, 3) := by decide +kernel
theorem dX1_countAheadOf_45 : decode cX1_countAheadOf 45 = .ok (.iinc 2 1, 3) := by decide +kernel
theorem dX1_countAheadOf_48 : decode cX1_countAheadOf 48 = .ok (.iinc 3 1, 3) := by decide +kernel
theorem dX1_countAheadOf_51 : decode cX1_countAheadOf 51 = .ok (.goto (-47), 3) := by decide +kernel
theorem dX1_countAheadOf_54 : decode cX1_countAheadOf 54 = .ok (.iload_n 2, 1) := by decide +kernel
theorem dX1_countAheadOf_55 : decode cX1_countAheadOf 55 = .ok (.ireturn, 1) := by decide +kernel
theorem dX1_counts_0 : decode cX1_counts 0 = .ok (.iload_n 1, 1) := by decide +kernel
theorem dX1_counts_1 : decode cX1_counts 1 = .ok (.ifCond .lt 47, 3) := by decide +kernel
theorem dX1_counts_4 : decode cX1_counts 4 = .ok (.iload_n 1, 1) := by decide +kernel
theorem dX1_counts_5 : decode cX1_counts 5 = .ok (.bipush 6, 2) := by decide +kernel
theorem dX1_counts_7 : decode cX1_counts 7 = .ok (.if_icmp .ge 41, 3) := by decide +kernel
theorem dX1_counts_10 : decode cX1_counts 10 = .ok (.iload_n 2, 1) := by decide +kernel
theorem dX1_counts_11 : decode cX1_counts 11 = .ok (.invokestatic 30, 3) := by decide +kernel
theorem dX1_counts_14 : decode cX1_counts 14 = .ok (.ifCond .eq 34, 3) := by decide +kernel
theorem dX1_counts_17 : decode cX1_counts 17 = .ok (.aload_n 0, 1) := by decide +kernel
theorem dX1_counts_18 : decode cX1_counts 18 = .ok (.getfield 17, 3) := by decide +kernel
theorem dX1_counts_21 : decode cX1_counts 21 = .ok (.iload_n 1, 1) := by decide +kernel
theorem dX1_counts_22 : decode cX1_counts 22 = .ok (.aaload, 1) := by decide +kernel
theorem dX1_counts_23 : decode cX1_counts 23 = .ok (.iload_n 2, 1) := by decide +kernel
theorem dX1_counts_24 : decode cX1_counts 24 = .ok (.iaload, 1) := by decide +kernel
theorem dX1_counts_25 : decode cX1_counts 25 = .ok (.iconst (-1), 1) := by decide +kernel
theorem dX1_counts_26 : decode cX1_counts 26 = .ok (.if_icmp .eq 22, 3) := by decide +kernel
theorem dX1_counts_29 : decode cX1_counts 29 = .ok (.aload_n 0, 1) := by decide +kernel
theorem dX1_counts_30 : decode cX1_counts 30 = .ok (.getfield 9, 3) := by decide +kernel
theorem dX1_counts_33 : decode cX1_counts 33 = .ok (.iload_n 1, 1) := by decide +kernel
theorem dX1_counts_34 : decode cX1_counts 34 = .ok (.iaload, 1) := by decide +kernel
theorem dX1_counts_35 : decode cX1_counts 35 = .ok (.aload_n 0, 1) := by decide +kernel
theorem dX1_counts_36 : decode cX1_counts 36 = .ok (.getfield 23, 3) := by decide +kernel
theorem dX1_counts_39 : decode cX1_counts 39 = .ok (.iload_n 2, 1) := by decide +kernel
theorem dX1_counts_40 : decode cX1_counts 40 = .ok (.iaload, 1) := by decide +kernel
theorem dX1_counts_41 : decode cX1_counts 41 = .ok (.if_icmp .eq 7, 3) := by decide +kernel
theorem dX1_counts_44 : decode cX1_counts 44 = .ok (.iconst 1, 1) := by decide +kernel
theorem dX1_counts_45 : decode cX1_counts 45 = .ok (.goto 4, 3) := by decide +kernel
theorem dX1_counts_48 : decode cX1_counts 48 = .ok (.iconst 0, 1) := by decide +kernel
theorem dX1_counts_49 : decode cX1_counts 49 = .ok (.ireturn, 1) := by decide +kernel
theorem dX1_scaled_0 : decode cX1_scaled 0 = .ok (.bipush 100, 2) := by decide +kernel
theorem dX1_scaled_2 : decode cX1_scaled 2 = .ok (.istore_n 3, 1) := by decide +kernel
theorem dX1_scaled_3 : decode cX1_scaled 3 = .ok (.iconst 0, 1) := by decide +kernel
theorem dX1_scaled_4 : decode cX1_scaled 4 = .ok (.istore 4, 2) := by decide +kernel
theorem dX1_scaled_6 : decode cX1_scaled 6 = .ok (.iconst 0, 1) := by decide +kernel
theorem dX1_scaled_7 : decode cX1_scaled 7 = .ok (.istore 5, 2) := by decide +kernel
theorem dX1_scaled_9 : decode cX1_scaled 9 = .ok (.iload 5, 2) := by decide +kernel
theorem dX1_scaled_11 : decode cX1_scaled 11 = .ok (.bipush 24, 2) := by decide +kernel
theorem dX1_scaled_13 : decode cX1_scaled 13 = .ok (.if_icmp .ge 49, 3) := by decide +kernel
theorem dX1_scaled_16 : decode cX1_scaled 16 = .ok (.aload_n 0, 1) := by decide +kernel
theorem dX1_scaled_17 : decode cX1_scaled 17 = .ok (.iload_n 1, 1) := by decide +kernel
theorem dX1_scaled_18 : decode cX1_scaled 18 = .ok (.iload 5, 2) := by decide +kernel
theorem dX1_scaled_20 : decode cX1_scaled 20 = .ok (.invokevirtual 33, 3) := by decide +kernel
theorem dX1_scaled_23 : decode cX1_scaled 23 = .ok (.ifCond .eq 33, 3) := by decide +kernel
theorem dX1_scaled_26 : decode cX1_scaled 26 = .ok (.iload_n 3, 1) := by decide +kernel
theorem dX1_scaled_27 : decode cX1_scaled 27 = .ok (.aload_n 0, 1) := by decide +kernel
theorem dX1_scaled_28 : decode cX1_scaled 28 = .ok (.getfield 17, 3) := by decide +kernel
theorem dX1_scaled_31 : decode cX1_scaled 31 = .ok (.iload_n 1, 1) := by decide +kernel
theorem dX1_scaled_32 : decode cX1_scaled 32 = .ok (.aaload, 1) := by decide +kernel
theorem dX1_scaled_33 : decode cX1_scaled 33 = .ok (.iload 5, 2) := by decide +kernel
theorem dX1_scaled_35 : decode cX1_scaled 35 = .ok (.iaload, 1) := by decide +kernel
theorem dX1_scaled_36 : decode cX1_scaled 36 = .ok (.invokestatic 48, 3) := by decide +kernel
theorem dX1_scaled_39 : decode cX1_scaled 39 = .ok (.istore_n 3, 1) := by decide +kernel
theorem dX1_scaled_40 : decode cX1_scaled 40 = .ok (.iload 4, 2) := by decide +kernel
theorem dX1_scaled_42 : decode cX1_scaled 42 = .ok (.aload_n 0, 1) := by decide +kernel
theorem dX1_scaled_43 : decode cX1_scaled 43 = .ok (.getfield 17, 3) := by decide +kernel
theorem dX1_scaled_46 : decode cX1_scaled 46 = .ok (.iload_n 1, 1) := by decide +kernel
theorem dX1_scaled_47 : decode cX1_scaled 47 = .ok (.aaload, 1) := by decide +kernel
theorem dX1_scaled_48 : decode cX1_scaled 48 = .ok (.iload 5, 2) := by decide +kernel
theorem dX1_scaled_50 : decode cX1_scaled 50 = .ok (.iaload, 1) := by decide +kernel
theorem dX1_scaled_51 : decode cX1_scaled 51 = .ok (.invokestatic 53, 3) := by decide +kernel
theorem dX1_scaled_54 : decode cX1_scaled 54 = .ok (.istore 4, 2) := by decide +kernel
theorem dX1_scaled_56 : decode cX1_scaled 56 = .ok (.iinc 5 1, 3) := by decide +kernel
theorem dX1_scaled_59 : decode cX1_scaled 59 = .ok (.goto (-50), 3) := by decide +kernel
theorem dX1_scaled_62 : decode cX1_scaled 62 = .ok (.iload 4, 2) := by decide +kernel
theorem dX1_scaled_64 : decode cX1_scaled 64 = .ok (.iload_n 3, 1) := by decide +kernel
theorem dX1_scaled_65 : decode cX1_scaled 65 = .ok (.if_icmp .le 25, 3) := by decide +kernel
theorem dX1_scaled_68 : decode cX1_scaled 68 = .ok (.aload_n 0, 1) := by decide +kernel
theorem dX1_scaled_69 : decode cX1_scaled 69 = .ok (.getfield 17, 3) := by decide +kernel
theorem dX1_scaled_72 : decode cX1_scaled 72 = .ok (.iload_n 1, 1) := by decide +kernel
theorem dX1_scaled_73 : decode cX1_scaled 73 = .ok (.aaload, 1) := by decide +kernel
theorem dX1_scaled_74 : decode cX1_scaled 74 = .ok (.iload_n 2, 1) := by decide +kernel
theorem dX1_scaled_75 : decode cX1_scaled 75 = .ok (.iaload, 1) := by decide +kernel
theorem dX1_scaled_76 : decode cX1_scaled 76 = .ok (.iload_n 3, 1) := by decide +kernel
theorem dX1_scaled_77 : decode cX1_scaled 77 = .ok (.isub, 1) := by decide +kernel
theorem dX1_scaled_78 : decode cX1_scaled 78 = .ok (.sipush 1000, 3) := by decide +kernel
theorem dX1_scaled_81 : decode cX1_scaled 81 = .ok (.imul, 1) := by decide +kernel
theorem dX1_scaled_82 : decode cX1_scaled 82 = .ok (.iload 4, 2) := by decide +kernel
theorem dX1_scaled_84 : decode cX1_scaled 84 = .ok (.iload_n 3, 1) := by decide +kernel
theorem dX1_scaled_85 : decode cX1_scaled 85 = .ok (.isub, 1) := by decide +kernel
theorem dX1_scaled_86 : decode cX1_scaled 86 = .ok (.idiv, 1) := by decide +kernel
theorem dX1_scaled_87 : decode cX1_scaled 87 = .ok (.goto 6, 3) := by decide +kernel
theorem dX1_scaled_90 : decode cX1_scaled 90 = .ok (.sipush 500, 3) := by decide +kernel
theorem dX1_scaled_93 : decode cX1_scaled 93 = .ok (.ireturn, 1) := by decide +kernel
theorem dX2_init_0 : decode cX2_init 0 = .ok (.aload_n 0, 1) := by decide +kernel
theorem dX2_init_1 : decode cX2_init 1 = .ok (.invokespecial 3, 3) := by decide +kernel
theorem dX2_init_4 : decode cX2_init 4 = .ok (.aload_n 0, 1) := by decide +kernel
theorem dX2_init_5 : decode cX2_init 5 = .ok (.sipush 300, 3) := by decide +kernel
theorem dX2_init_8 : decode cX2_init 8 = .ok (.newarray .int, 2) := by decide +kernel
theorem dX2_init_10 : decode cX2_init 10 = .ok (.putfield 9, 3) := by decide +kernel
theorem dX2_init_13 : decode cX2_init 13 = .ok (.aload_n 0, 1) := by decide +kernel
theorem dX2_init_14 : decode cX2_init 14 = .ok (.sipush 300, 3) := by decide +kernel
theorem dX2_init_17 : decode cX2_init 17 = .ok (.newarray .int, 2) := by decide +kernel
theorem dX2_init_19 : decode cX2_init 19 = .ok (.putfield 15, 3) := by decide +kernel
theorem dX2_init_22 : decode cX2_init 22 = .ok (.aload_n 0, 1) := by decide +kernel
theorem dX2_init_23 : decode cX2_init 23 = .ok (.sipush 300, 3) := by decide +kernel
theorem dX2_init_26 : decode cX2_init 26 = .ok (.newarray .int, 2) := by decide +kernel
theorem dX2_init_28 : decode cX2_init 28 = .ok (.putfield 18, 3) := by decide +kernel
theorem dX2_init_31 : decode cX2_init 31 = .ok (.aload_n 0, 1) := by decide +kernel
theorem dX2_init_32 : decode cX2_init 32 = .ok (.sipush 300, 3) := by decide +kernel
theorem dX2_init_35 : decode cX2_init 35 = .ok (.newarray .int, 2) := by decide +kernel
theorem dX2_init_37 : decode cX2_init 37 = .ok (.putfield 21, 3) := by decide +kernel
theorem dX2_init_40 : decode cX2_init 40 = .ok (.aload_n 0, 1) := by decide +kernel
theorem dX2_init_41 : decode cX2_init 41 = .ok (.sipush 300, 3) := by decide +kernel
theorem dX2_init_44 : decode cX2_init 44 = .ok (.newarray .int, 2) := by decide +kernel
theorem dX2_init_46 : decode cX2_init 46 = .ok (.putfield 24, 3) := by decide +kernel
theorem dX2_init_49 : decode cX2_init 49 = .ok (.return_, 1) := by decide +kernel
theorem dX2_add_0 : decode cX2_add 0 = .ok (.aload_n 0, 1) := by decide +kernel
theorem dX2_add_1 : decode cX2_add 1 = .ok (.getfield 27, 3) := by decide +kernel
theorem dX2_add_4 : decode cX2_add 4 = .ok (.invokestatic 31, 3) := by decide +kernel
theorem dX2_add_7 : decode cX2_add 7 = .ok (.ifCond .ne 4, 3) := by decide +kernel
theorem dX2_add_10 : decode cX2_add 10 = .ok (.return_, 1) := by decide +kernel
theorem dX2_add_11 : decode cX2_add 11 = .ok (.aload_n 0, 1) := by decide +kernel
theorem dX2_add_12 : decode cX2_add 12 = .ok (.getfield 9, 3) := by decide +kernel
theorem dX2_add_15 : decode cX2_add 15 = .ok (.aload_n 0, 1) := by decide +kernel
theorem dX2_add_16 : decode cX2_add 16 = .ok (.getfield 27, 3) := by decide +kernel
theorem dX2_add_19 : decode cX2_add 19 = .ok (.iload_n 1, 1) := by decide +kernel
theorem dX2_add_20 : decode cX2_add 20 = .ok (.iastore, 1) := by decide +kernel
theorem dX2_add_21 : decode cX2_add 21 = .ok (.aload_n 0, 1) := by decide +kernel
theorem dX2_add_22 : decode cX2_add 22 = .ok (.getfield 15, 3) := by decide +kernel
theorem dX2_add_25 : decode cX2_add 25 = .ok (.aload_n 0, 1) := by decide +kernel
theorem dX2_add_26 : decode cX2_add 26 = .ok (.getfield 27, 3) := by decide +kernel
theorem dX2_add_29 : decode cX2_add 29 = .ok (.iload_n 2, 1) := by decide +kernel
theorem dX2_add_30 : decode cX2_add 30 = .ok (.iastore, 1) := by decide +kernel
theorem dX2_add_31 : decode cX2_add 31 = .ok (.aload_n 0, 1) := by decide +kernel
theorem dX2_add_32 : decode cX2_add 32 = .ok (.getfield 18, 3) := by decide +kernel
theorem dX2_add_35 : decode cX2_add 35 = .ok (.aload_n 0, 1) := by decide +kernel
theorem dX2_add_36 : decode cX2_add 36 = .ok (.getfield 27, 3) := by decide +kernel
theorem dX2_add_39 : decode cX2_add 39 = .ok (.iload_n 3, 1) := by decide +kernel
theorem dX2_add_40 : decode cX2_add 40 = .ok (.iastore, 1) := by decide +kernel
theorem dX2_add_41 : decode cX2_add 41 = .ok (.aload_n 0, 1) := by decide +kernel
theorem dX2_add_42 : decode cX2_add 42 = .ok (.getfield 21, 3) := by decide +kernel
theorem dX2_add_45 : decode cX2_add 45 = .ok (.aload_n 0, 1) := by decide +kernel
theorem dX2_add_46 : decode cX2_add 46 = .ok (.getfield 27, 3) := by decide +kernel
theorem dX2_add_49 : decode cX2_add 49 = .ok (.iload 4, 2) := by decide +kernel
theorem dX2_add_51 : decode cX2_add 51 = .ok (.iastore, 1) := by decide +kernel
theorem dX2_add_52 : decode cX2_add 52 = .ok (.aload_n 0, 1) := by decide +kernel
theorem dX2_add_53 : decode cX2_add 53 = .ok (.getfield 24, 3) := by decide +kernel
theorem dX2_add_56 : decode cX2_add 56 = .ok (.aload_n 0, 1) := by decide +kernel
theorem dX2_add_57 : decode cX2_add 57 = .ok (.getfield 27, 3) := by decide +kernel
theorem dX2_add_60 : decode cX2_add 60 = .ok (.iload 5, 2) := by decide +kernel
theorem dX2_add_62 : decode cX2_add 62 = .ok (.iastore, 1) := by decide +kernel
theorem dX2_add_63 : decode cX2_add 63 = .ok (.aload_n 0, 1) := by decide +kernel
theorem dX2_add_64 : decode cX2_add 64 = .ok (.dup, 1) := by decide +kernel
theorem dX2_add_65 : decode cX2_add 65 = .ok (.getfield 27, 3) := by decide +kernel
theorem dX2_add_68 : decode cX2_add 68 = .ok (.iconst 1, 1) := by decide +kernel
theorem dX2_add_69 : decode cX2_add 69 = .ok (.iadd, 1) := by decide +kernel
theorem dX2_add_70 : decode cX2_add 70 = .ok (.putfield 27, 3) := by decide +kernel
theorem dX2_add_73 : decode cX2_add 73 = .ok (.return_, 1) := by decide +kernel
theorem dX3_init_0 : decode cX3_init 0 = .ok (.aload_n 0, 1) := by decide +kernel
theorem dX3_init_1 : decode cX3_init 1 = .ok (.invokespecial 3, 3) := by decide +kernel
theorem dX3_init_4 : decode cX3_init 4 = .ok (.aload_n 0, 1) := by decide +kernel
theorem dX3_init_5 : decode cX3_init 5 = .ok (.bipush 8, 2) := by decide +kernel
theorem dX3_init_7 : decode cX3_init 7 = .ok (.newarray .int, 2) := by decide +kernel
theorem dX3_init_9 : decode cX3_init 9 = .ok (.putfield 9, 3) := by decide +kernel
theorem dX3_init_12 : decode cX3_init 12 = .ok (.aload_n 0, 1) := by decide +kernel
theorem dX3_init_13 : decode cX3_init 13 = .ok (.bipush 8, 2) := by decide +kernel
theorem dX3_init_15 : decode cX3_init 15 = .ok (.newarray .int, 2) := by decide +kernel
theorem dX3_init_17 : decode cX3_init 17 = .ok (.putfield 15, 3) := by decide +kernel
theorem dX3_init_20 : decode cX3_init 20 = .ok (.aload_n 0, 1) := by decide +kernel
theorem dX3_init_21 : decode cX3_init 21 = .ok (.bipush 8, 2) := by decide +kernel
theorem dX3_init_23 : decode cX3_init 23 = .ok (.newarray .int, 2) := by decide +kernel
theorem dX3_init_25 : decode cX3_init 25 = .ok (.putfield 18, 3) := by decide +kernel
end
section
theorem dX3_init_28 : decode cX3_init 28 = .ok (.aload_n 0, 1) := by decide +kernel
theorem dX3_init_29 : decode cX3_init 29 = .ok (.bipush 8, 2) := by decide +kernel
theorem dX3_init_31 : decode cX3_init 31 = .ok (.newarray .int, 2) := by decide +kernel
theorem dX3_init_33 : decode cX3_init 33 = .ok (.putfield 21, 3) := by decide +kernel
theorem dX3_init_36 : decode cX3_init 36 = .ok (.aload_n 0, 1) := by decide +kernel
theorem dX3_init_37 : decode cX3_init 37 = .ok (.bipush 8, 2) := by decide +kernel
theorem dX3_init_39 : decode cX3_init 39 = .ok (.newarray .int, 2) := by decide +kernel
theorem dX3_init_41 : decode cX3_init 41 = .ok (.putfield 24, 3) := by decide +kernel
theorem dX3_init_44 : decode cX3_init 44 = .ok (.aload_n 0, 1) := by decide +kernel
theorem dX3_init_45 : decode cX3_init 45 = .ok (.bipush 8, 2) := by decide +kernel
theorem dX3_init_47 : decode cX3_init 47 = .ok (.newarray .boolean, 2) := by decide +kernel
theorem dX3_init_49 : decode cX3_init 49 = .ok (.putfield 27, 3) := by decide +kernel
theorem dX3_init_52 : decode cX3_init 52 = .ok (.aload_n 0, 1) := by decide +kernel
theorem dX3_init_53 : decode cX3_init 53 = .ok (.bipush 8, 2) := by decide +kernel
theorem dX3_init_55 : decode cX3_init 55 = .ok (.newarray .boolean, 2) := by decide +kernel
theorem dX3_init_57 : decode cX3_init 57 = .ok (.putfield 31, 3) := by decide +kernel
theorem dX3_init_60 : decode cX3_init 60 = .ok (.aload_n 0, 1) := by decide +kernel
theorem dX3_init_61 : decode cX3_init 61 = .ok (.aload_n 1, 1) := by decide +kernel
theorem dX3_init_62 : decode cX3_init 62 = .ok (.putfield 34, 3) := by decide +kernel
theorem dX3_init_65 : decode cX3_init 65 = .ok (.return_, 1) := by decide +kernel
theorem dX3_top_0 : decode cX3_top 0 = .ok (.aload_n 0, 1) := by decide +kernel
theorem dX3_top_1 : decode cX3_top 1 = .ok (.getfield 38, 3) := by decide +kernel
theorem dX3_top_4 : decode cX3_top 4 = .ok (.ifCond .le 21, 3) := by decide +kernel
theorem dX3_top_7 : decode cX3_top 7 = .ok (.aload_n 0, 1) := by decide +kernel
theorem dX3_top_8 : decode cX3_top 8 = .ok (.getfield 38, 3) := by decide +kernel
theorem dX3_top_11 : decode cX3_top 11 = .ok (.bipush 8, 2) := by decide +kernel
theorem dX3_top_13 : decode cX3_top 13 = .ok (.if_icmp .gt 12, 3) := by decide +kernel
theorem dX3_top_16 : decode cX3_top 16 = .ok (.aload_n 0, 1) := by decide +kernel
theorem dX3_top_17 : decode cX3_top 17 = .ok (.getfield 38, 3) := by decide +kernel
theorem dX3_top_20 : decode cX3_top 20 = .ok (.iconst 1, 1) := by decide +kernel
theorem dX3_top_21 : decode cX3_top 21 = .ok (.isub, 1) := by decide +kernel
theorem dX3_top_22 : decode cX3_top 22 = .ok (.goto 4, 3) := by decide +kernel
theorem dX3_top_25 : decode cX3_top 25 = .ok (.iconst (-1), 1) := by decide +kernel
theorem dX3_top_26 : decode cX3_top 26 = .ok (.ireturn, 1) := by decide +kernel
theorem dX3_isFull_0 : decode cX3_isFull 0 = .ok (.aload_n 0, 1) := by decide +kernel
theorem dX3_isFull_1 : decode cX3_isFull 1 = .ok (.getfield 38, 3) := by decide +kernel
theorem dX3_isFull_4 : decode cX3_isFull 4 = .ok (.bipush 8, 2) := by decide +kernel
theorem dX3_isFull_6 : decode cX3_isFull 6 = .ok (.if_icmp .lt 7, 3) := by decide +kernel
theorem dX3_isFull_9 : decode cX3_isFull 9 = .ok (.iconst 1, 1) := by decide +kernel
theorem dX3_isFull_10 : decode cX3_isFull 10 = .ok (.goto 4, 3) := by decide +kernel
theorem dX3_isFull_13 : decode cX3_isFull 13 = .ok (.iconst 0, 1) := by decide +kernel
theorem dX3_isFull_14 : decode cX3_isFull 14 = .ok (.ireturn, 1) := by decide +kernel
theorem dX3_has_0 : decode cX3_has 0 = .ok (.iconst 0, 1) := by decide +kernel
theorem dX3_has_1 : decode cX3_has 1 = .ok (.istore_n 2, 1) := by decide +kernel
theorem dX3_has_2 : decode cX3_has 2 = .ok (.iload_n 2, 1) := by decide +kernel
theorem dX3_has_3 : decode cX3_has 3 = .ok (.aload_n 0, 1) := by decide +kernel
theorem dX3_has_4 : decode cX3_has 4 = .ok (.getfield 38, 3) := by decide +kernel
theorem dX3_has_7 : decode cX3_has 7 = .ok (.if_icmp .ge 27, 3) := by decide +kernel
theorem dX3_has_10 : decode cX3_has 10 = .ok (.iload_n 2, 1) := by decide +kernel
theorem dX3_has_11 : decode cX3_has 11 = .ok (.bipush 8, 2) := by decide +kernel
theorem dX3_has_13 : decode cX3_has 13 = .ok (.if_icmp .ge 21, 3) := by decide +kernel
theorem dX3_has_16 : decode cX3_has 16 = .ok (.aload_n 0, 1) := by decide +kernel
theorem dX3_has_17 : decode cX3_has 17 = .ok (.getfield 9, 3) := by decide +kernel
theorem dX3_has_20 : decode cX3_has 20 = .ok (.iload_n 2, 1) := by decide +kernel
theorem dX3_has_21 : decode cX3_has 21 = .ok (.iaload, 1) := by decide +kernel
theorem dX3_has_22 : decode cX3_has 22 = .ok (.iload_n 1, 1) := by decide +kernel
theorem dX3_has_23 : decode cX3_has 23 = .ok (.if_icmp .ne 5, 3) := by decide +kernel
theorem dX3_has_26 : decode cX3_has 26 = .ok (.iconst 1, 1) := by decide +kernel
theorem dX3_has_27 : decode cX3_has 27 = .ok (.ireturn, 1) := by decide +kernel
theorem dX3_has_28 : decode cX3_has 28 = .ok (.iinc 2 1, 3) := by decide +kernel
theorem dX3_has_31 : decode cX3_has 31 = .ok (.goto (-29), 3) := by decide +kernel
theorem dX3_has_34 : decode cX3_has 34 = .ok (.iconst 0, 1) := by decide +kernel
theorem dX3_has_35 : decode cX3_has 35 = .ok (.ireturn, 1) := by decide +kernel
theorem dX3_isOutrankedBy_0 : decode cX3_isOutrankedBy 0 = .ok (.aload_n 0, 1) := by decide +kernel
theorem dX3_isOutrankedBy_1 : decode cX3_isOutrankedBy 1 = .ok (.invokevirtual 42, 3) := by decide +kernel
theorem dX3_isOutrankedBy_4 : decode cX3_isOutrankedBy 4 = .ok (.istore_n 2, 1) := by decide +kernel
theorem dX3_isOutrankedBy_5 : decode cX3_isOutrankedBy 5 = .ok (.iload_n 2, 1) := by decide +kernel
theorem dX3_isOutrankedBy_6 : decode cX3_isOutrankedBy 6 = .ok (.iconst (-1), 1) := by decide +kernel
theorem dX3_isOutrankedBy_7 : decode cX3_isOutrankedBy 7 = .ok (.if_icmp .eq 27, 3) := by decide +kernel
theorem dX3_isOutrankedBy_10 : decode cX3_isOutrankedBy 10 = .ok (.aload_n 0, 1) := by decide +kernel
theorem dX3_isOutrankedBy_11 : decode cX3_isOutrankedBy 11 = .ok (.getfield 34, 3) := by decide +kernel
theorem dX3_isOutrankedBy_14 : decode cX3_isOutrankedBy 14 = .ok (.iload_n 1, 1) := by decide +kernel
theorem dX3_isOutrankedBy_15 : decode cX3_isOutrankedBy 15 = .ok (.invokevirtual 46, 3) := by decide +kernel
theorem dX3_isOutrankedBy_18 : decode cX3_isOutrankedBy 18 = .ok (.aload_n 0, 1) := by decide +kernel
theorem dX3_isOutrankedBy_19 : decode cX3_isOutrankedBy 19 = .ok (.getfield 34, 3) := by decide +kernel
theorem dX3_isOutrankedBy_22 : decode cX3_isOutrankedBy 22 = .ok (.aload_n 0, 1) := by decide +kernel
theorem dX3_isOutrankedBy_23 : decode cX3_isOutrankedBy 23 = .ok (.getfield 9, 3) := by decide +kernel
theorem dX3_isOutrankedBy_26 : decode cX3_isOutrankedBy 26 = .ok (.iload_n 2, 1) := by decide +kernel
theorem dX3_isOutrankedBy_27 : decode cX3_isOutrankedBy 27 = .ok (.iaload, 1) := by decide +kernel
theorem dX3_isOutrankedBy_28 : decode cX3_isOutrankedBy 28 = .ok (.invokevirtual 46, 3) := by decide +kernel
theorem dX3_isOutrankedBy_31 : decode cX3_isOutrankedBy 31 = .ok (.if_icmp .le 7, 3) := by decide +kernel
theorem dX3_isOutrankedBy_34 : decode cX3_isOutrankedBy 34 = .ok (.iconst 1, 1) := by decide +kernel
theorem dX3_isOutrankedBy_35 : decode cX3_isOutrankedBy 35 = .ok (.goto 4, 3) := by decide +kernel
theorem dX3_isOutrankedBy_38 : decode cX3_isOutrankedBy 38 = .ok (.iconst 0, 1) := by decide +kernel
theorem dX3_isOutrankedBy_39 : decode cX3_isOutrankedBy 39 = .ok (.ireturn, 1) := by decide +kernel
theorem dX3_maySecond_0 : decode cX3_maySecond 0 = .ok (.aload_n 0, 1) := by decide +kernel
theorem dX3_maySecond_1 : decode cX3_maySecond 1 = .ok (.invokevirtual 42, 3) := by decide +kernel
theorem dX3_maySecond_4 : decode cX3_maySecond 4 = .ok (.istore_n 2, 1) := by decide +kernel
theorem dX3_maySecond_5 : decode cX3_maySecond 5 = .ok (.iload_n 2, 1) := by decide +kernel
theorem dX3_maySecond_6 : decode cX3_maySecond 6 = .ok (.iconst (-1), 1) := by decide +kernel
theorem dX3_maySecond_7 : decode cX3_maySecond 7 = .ok (.if_icmp .eq 26, 3) := by decide +kernel
theorem dX3_maySecond_10 : decode cX3_maySecond 10 = .ok (.aload_n 0, 1) := by decide +kernel
theorem dX3_maySecond_11 : decode cX3_maySecond 11 = .ok (.getfield 27, 3) := by decide +kernel
theorem dX3_maySecond_14 : decode cX3_maySecond 14 = .ok (.iload_n 2, 1) := by decide +kernel
theorem dX3_maySecond_15 : decode cX3_maySecond 15 = .ok (.baload, 1) := by decide +kernel
theorem dX3_maySecond_16 : decode cX3_maySecond 16 = .ok (.ifCond .ne 17, 3) := by decide +kernel
theorem dX3_maySecond_19 : decode cX3_maySecond 19 = .ok (.aload_n 0, 1) := by decide +kernel
theorem dX3_maySecond_20 : decode cX3_maySecond 20 = .ok (.getfield 15, 3) := by decide +kernel
theorem dX3_maySecond_23 : decode cX3_maySecond 23 = .ok (.iload_n 2, 1) := by decide +kernel
theorem dX3_maySecond_24 : decode cX3_maySecond 24 = .ok (.iaload, 1) := by decide +kernel
theorem dX3_maySecond_25 : decode cX3_maySecond 25 = .ok (.iload_n 1, 1) := by decide +kernel
theorem dX3_maySecond_26 : decode cX3_maySecond 26 = .ok (.if_icmp .eq 7, 3) := by decide +kernel
theorem dX3_maySecond_29 : decode cX3_maySecond 29 = .ok (.iconst 1, 1) := by decide +kernel
theorem dX3_maySecond_30 : decode cX3_maySecond 30 = .ok (.goto 4, 3) := by decide +kernel
theorem dX3_maySecond_33 : decode cX3_maySecond 33 = .ok (.iconst 0, 1) := by decide +kernel
theorem dX3_maySecond_34 : decode cX3_maySecond 34 = .ok (.ireturn, 1) := by decide +kernel
theorem dX3_mayDecide_0 : decode cX3_mayDecide 0 = .ok (.aload_n 0, 1) := by decide +kernel
theorem dX3_mayDecide_1 : decode cX3_mayDecide 1 = .ok (.invokevirtual 42, 3) := by decide +kernel
theorem dX3_mayDecide_4 : decode cX3_mayDecide 4 = .ok (.istore_n 2, 1) := by decide +kernel
theorem dX3_mayDecide_5 : decode cX3_mayDecide 5 = .ok (.iload_n 2, 1) := by decide +kernel
theorem dX3_mayDecide_6 : decode cX3_mayDecide 6 = .ok (.iconst (-1), 1) := by decide +kernel
theorem dX3_mayDecide_7 : decode cX3_mayDecide 7 = .ok (.if_icmp .eq 15, 3) := by decide +kernel
theorem dX3_mayDecide_10 : decode cX3_mayDecide 10 = .ok (.aload_n 0, 1) := by decide +kernel
theorem dX3_mayDecide_11 : decode cX3_mayDecide 11 = .ok (.getfield 9, 3) := by decide +kernel
theorem dX3_mayDecide_14 : decode cX3_mayDecide 14 = .ok (.iload_n 2, 1) := by decide +kernel
theorem dX3_mayDecide_15 : decode cX3_mayDecide 15 = .ok (.iaload, 1) := by decide +kernel
theorem dX3_mayDecide_16 : decode cX3_mayDecide 16 = .ok (.invokestatic 52, 3) := by decide +kernel
theorem dX3_mayDecide_19 : decode cX3_mayDecide 19 = .ok (.ifCond .ne 5, 3) := by decide +kernel
theorem dX3_mayDecide_22 : decode cX3_mayDecide 22 = .ok (.iconst 0, 1) := by decide +kernel
theorem dX3_mayDecide_23 : decode cX3_mayDecide 23 = .ok (.ireturn, 1) := by decide +kernel
theorem dX3_mayDecide_24 : decode cX3_mayDecide 24 = .ok (.aload_n 0, 1) := by decide +kernel
theorem dX3_mayDecide_25 : decode cX3_mayDecide 25 = .ok (.getfield 27, 3) := by decide +kernel
theorem dX3_mayDecide_28 : decode cX3_mayDecide 28 = .ok (.iload_n 2, 1) := by decide +kernel
theorem dX3_mayDecide_29 : decode cX3_mayDecide 29 = .ok (.baload, 1) := by decide +kernel
theorem dX3_mayDecide_30 : decode cX3_mayDecide 30 = .ok (.ifCond .eq 43, 3) := by decide +kernel
theorem dX3_mayDecide_33 : decode cX3_mayDecide 33 = .ok (.aload_n 0, 1) := by decide +kernel
theorem dX3_mayDecide_34 : decode cX3_mayDecide 34 = .ok (.getfield 31, 3) := by decide +kernel
theorem dX3_mayDecide_37 : decode cX3_mayDecide 37 = .ok (.iload_n 2, 1) := by decide +kernel
theorem dX3_mayDecide_38 : decode cX3_mayDecide 38 = .ok (.baload, 1) := by decide +kernel
theorem dX3_mayDecide_39 : decode cX3_mayDecide 39 = .ok (.ifCond .eq 34, 3) := by decide +kernel
theorem dX3_mayDecide_42 : decode cX3_mayDecide 42 = .ok (.aload_n 0, 1) := by decide +kernel
theorem dX3_mayDecide_43 : decode cX3_mayDecide 43 = .ok (.getfield 34, 3) := by decide +kernel
theorem dX3_mayDecide_46 : decode cX3_mayDecide 46 = .ok (.getfield 56, 3) := by decide +kernel
theorem dX3_mayDecide_49 : decode cX3_mayDecide 49 = .ok (.aload_n 0, 1) := by decide +kernel
theorem dX3_mayDecide_50 : decode cX3_mayDecide 50 = .ok (.getfield 9, 3) := by decide +kernel
theorem dX3_mayDecide_53 : decode cX3_mayDecide 53 = .ok (.iload_n 2, 1) := by decide +kernel
theorem dX3_mayDecide_54 : decode cX3_mayDecide 54 = .ok (.iaload, 1) := by decide +kernel
theorem dX3_mayDecide_55 : decode cX3_mayDecide 55 = .ok (.iaload, 1) := by decide +kernel
theorem dX3_mayDecide_56 : decode cX3_mayDecide 56 = .ok (.iconst 3, 1) := by decide +kernel
theorem dX3_mayDecide_57 : decode cX3_mayDecide 57 = .ok (.if_icmp .ne 7, 3) := by decide +kernel
theorem dX3_mayDecide_60 : decode cX3_mayDecide 60 = .ok (.iconst 1, 1) := by decide +kernel
theorem dX3_mayDecide_61 : decode cX3_mayDecide 61 = .ok (.goto 4, 3) := by decide +kernel
theorem dX3_mayDecide_64 : decode cX3_mayDecide 64 = .ok (.iconst 0, 1) := by decide +kernel
theorem dX3_mayDecide_65 : decode cX3_mayDecide 65 = .ok (.iload_n 1, 1) := by decide +kernel
theorem dX3_mayDecide_66 : decode cX3_mayDecide 66 = .ok (.if_icmp .ne 7, 3) := by decide +kernel
theorem dX3_mayDecide_69 : decode cX3_mayDecide 69 = .ok (.iconst 1, 1) := by decide +kernel
theorem dX3_mayDecide_70 : decode cX3_mayDecide 70 = .ok (.goto 4, 3) := by decide +kernel
theorem dX3_mayDecide_73 : decode cX3_mayDecide 73 = .ok (.iconst 0, 1) := by decide +kernel
theorem dX3_mayDecide_74 : decode cX3_mayDecide 74 = .ok (.ireturn, 1) := by decide +kernel
theorem dX3_push_0 : decode cX3_push 0 = .ok (.aload_n 0, 1) := by decide +kernel
theorem dX3_push_1 : decode cX3_push 1 = .ok (.getfield 38, 3) := by decide +kernel
theorem dX3_push_4 : decode cX3_push 4 = .ok (.ifCond .lt 17, 3) := by decide +kernel
theorem dX3_push_7 : decode cX3_push 7 = .ok (.aload_n 0, 1) := by decide +kernel
theorem dX3_push_8 : decode cX3_push 8 = .ok (.invokevirtual 59, 3) := by decide +kernel
theorem dX3_push_11 : decode cX3_push 11 = .ok (.ifCond .ne 10, 3) := by decide +kernel
theorem dX3_push_14 : decode cX3_push 14 = .ok (.iload_n 1, 1) := by decide +kernel
theorem dX3_push_15 : decode cX3_push 15 = .ok (.invokestatic 52, 3) := by decide +kernel
theorem dX3_push_18 : decode cX3_push 18 = .ok (.ifCond .ne 4, 3) := by decide +kernel
theorem dX3_push_21 : decode cX3_push 21 = .ok (.return_, 1) := by decide +kernel
theorem dX3_push_22 : decode cX3_push 22 = .ok (.aload_n 0, 1) := by decide +kernel
theorem dX3_push_23 : decode cX3_push 23 = .ok (.getfield 9, 3) := by decide +kernel
theorem dX3_push_26 : decode cX3_push 26 = .ok (.aload_n 0, 1) := by decide +kernel
theorem dX3_push_27 : decode cX3_push 27 = .ok (.getfield 38, 3) := by decide +kernel
theorem dX3_push_30 : decode cX3_push 30 = .ok (.iload_n 1, 1) := by decide +kernel
theorem dX3_push_31 : decode cX3_push 31 = .ok (.iastore, 1) := by decide +kernel
theorem dX3_push_32 : decode cX3_push 32 = .ok (.aload_n 0, 1) := by decide +kernel
theorem dX3_push_33 : decode cX3_push 33 = .ok (.getfield 15, 3) := by decide +kernel
theorem dX3_push_36 : decode cX3_push 36 = .ok (.aload_n 0, 1) := by decide +kernel
theorem dX3_push_37 : decode cX3_push 37 = .ok (.getfield 38, 3) := by decide +kernel
theorem dX3_push_40 : decode cX3_push 40 = .ok (.iload_n 2, 1) := by decide +kernel
theorem dX3_push_41 : decode cX3_push 41 = .ok (.iastore, 1) := by decide +kernel
theorem dX3_push_42 : decode cX3_push 42 = .ok (.aload_n 0, 1) := by decide +kernel
theorem dX3_push_43 : decode cX3_push 43 = .ok (.getfield 18, 3) := by decide +kernel
theorem dX3_push_46 : decode cX3_push 46 = .ok (.aload_n 0, 1) := by decide +kernel
theorem dX3_push_47 : decode cX3_push 47 = .ok (.getfield 38, 3) := by decide +kernel
theorem dX3_push_50 : decode cX3_push 50 = .ok (.iload_n 3, 1) := by decide +kernel
theorem dX3_push_51 : decode cX3_push 51 = .ok (.iastore, 1) := by decide +kernel
theorem dX3_push_52 : decode cX3_push 52 = .ok (.aload_n 0, 1) := by decide +kernel
theorem dX3_push_53 : decode cX3_push 53 = .ok (.getfield 21, 3) := by decide +kernel
theorem dX3_push_56 : decode cX3_push 56 = .ok (.aload_n 0, 1) := by decide +kernel
theorem dX3_push_57 : decode cX3_push 57 = .ok (.getfield 38, 3) := by decide +kernel
theorem dX3_push_60 : decode cX3_push 60 = .ok (.iload 4, 2) := by decide +kernel
theorem dX3_push_62 : decode cX3_push 62 = .ok (.iastore, 1) := by decide +kernel
theorem dX3_push_63 : decode cX3_push 63 = .ok (.aload_n 0, 1) := by decide +kernel
theorem dX3_push_64 : decode cX3_push 64 = .ok (.getfield 24, 3) := by decide +kernel
theorem dX3_push_67 : decode cX3_push 67 = .ok (.aload_n 0, 1) := by decide +kernel
theorem dX3_push_68 : decode cX3_push 68 = .ok (.getfield 38, 3) := by decide +kernel
theorem dX3_push_71 : decode cX3_push 71 = .ok (.iload 5, 2) := by decide +kernel
theorem dX3_push_73 : decode cX3_push 73 = .ok (.iastore, 1) := by decide +kernel
theorem dX3_push_74 : decode cX3_push 74 = .ok (.aload_n 0, 1) := by decide +kernel
theorem dX3_push_75 : decode cX3_push 75 = .ok (.getfield 27, 3) := by decide +kernel
theorem dX3_push_78 : decode cX3_push 78 = .ok (.aload_n 0, 1) := by decide +kernel
theorem dX3_push_79 : decode cX3_push 79 = .ok (.getfield 38, 3) := by decide +kernel
theorem dX3_push_82 : decode cX3_push 82 = .ok (.aload_n 0, 1) := by decide +kernel
theorem dX3_push_83 : decode cX3_push 83 = .ok (.getfield 34, 3) := by decide +kernel
theorem dX3_push_86 : decode cX3_push 86 = .ok (.getfield 63, 3) := by decide +kernel
theorem dX3_push_89 : decode cX3_push 89 = .ok (.iload_n 1, 1) := by decide +kernel
theorem dX3_push_90 : decode cX3_push 90 = .ok (.baload, 1) := by decide +kernel
theorem dX3_push_91 : decode cX3_push 91 = .ok (.ifCond .ne 7, 3) := by decide +kernel
theorem dX3_push_94 : decode cX3_push 94 = .ok (.iconst 1, 1) := by decide +kernel
theorem dX3_push_95 : decode cX3_push 95 = .ok (.goto 4, 3) := by decide +kernel
theorem dX3_push_98 : decode cX3_push 98 = .ok (.iconst 0, 1) := by decide +kernel
theorem dX3_push_99 : decode cX3_push 99 = .ok (.bastore, 1) := by decide +kernel
theorem dX3_push_100 : decode cX3_push 100 = .ok (.aload_n 0, 1) := by decide +kernel
theorem dX3_push_101 : decode cX3_push 101 = .ok (.getfield 31, 3) := by decide +kernel
theorem dX3_push_104 : decode cX3_push 104 = .ok (.aload_n 0, 1) := by decide +kernel
theorem dX3_push_105 : decode cX3_push 105 = .ok (.getfield 38, 3) := by decide +kernel
theorem dX3_push_108 : decode cX3_push 108 = .ok (.aload_n 0, 1) := by decide +kernel
theorem dX3_push_109 : decode cX3_push 109 = .ok (.getfield 34, 3) := by decide +kernel
theorem dX3_push_112 : decode cX3_push 112 = .ok (.getfield 66, 3) := by decide +kernel
theorem dX3_push_115 : decode cX3_push 115 = .ok (.iload_n 1, 1) := by decide +kernel
theorem dX3_push_116 : decode cX3_push 116 = .ok (.baload, 1) := by decide +kernel
theorem dX3_push_117 : decode cX3_push 117 = .ok (.ifCond .ne 7, 3) := by decide +kernel
theorem dX3_push_120 : decode cX3_push 120 = .ok (.iconst 1, 1) := by decide +kernel
theorem dX3_push_121 : decode cX3_push 121 = .ok (.goto 4, 3) := by decide +kernel
theorem dX3_push_124 : decode cX3_push 124 = .ok (.iconst 0, 1) := by decide +kernel
theorem dX3_push_125 : decode cX3_push 125 = .ok (.bastore, 1) := by decide +kernel
theorem dX3_push_126 : decode cX3_push 126 = .ok (.aload_n 0, 1) := by decide +kernel
theorem dX3_push_127 : decode cX3_push 127 = .ok (.dup, 1) := by decide +kernel
theorem dX3_push_128 : decode cX3_push 128 = .ok (.getfield 38, 3) := by decide +kernel
theorem dX3_push_131 : decode cX3_push 131 = .ok (.iconst 1, 1) := by decide +kernel
theorem dX3_push_132 : decode cX3_push 132 = .ok (.iadd, 1) := by decide +kernel
theorem dX3_push_133 : decode cX3_push 133 = .ok (.putfield 38, 3) := by decide +kernel
theorem dX3_push_136 : decode cX3_push 136 = .ok (.return_, 1) := by decide +kernel
theorem dX3_secondTop_0 : decode cX3_secondTop 0 = .ok (.aload_n 0, 1) := by decide +kernel
theorem dX3_secondTop_1 : decode cX3_secondTop 1 = .ok (.invokevirtual 42, 3) := by decide +kernel
theorem dX3_secondTop_4 : decode cX3_secondTop 4 = .ok (.istore_n 1, 1) := by decide +kernel
theorem dX3_secondTop_5 : decode cX3_secondTop 5 = .ok (.iload_n 1, 1) := by decide +kernel
theorem dX3_secondTop_6 : decode cX3_secondTop 6 = .ok (.iconst (-1), 1) := by decide +kernel
theorem dX3_secondTop_7 : decode cX3_secondTop 7 = .ok (.if_icmp .eq 10, 3) := by decide +kernel
theorem dX3_secondTop_10 : decode cX3_secondTop 10 = .ok (.aload_n 0, 1) := by decide +kernel
theorem dX3_secondTop_11 : decode cX3_secondTop 11 = .ok (.getfield 27, 3) := by decide +kernel
theorem dX3_secondTop_14 : decode cX3_secondTop 14 = .ok (.iload_n 1, 1) := by decide +kernel
theorem dX3_secondTop_15 : decode cX3_secondTop 15 = .ok (.iconst 1, 1) := by decide +kernel
theorem dX3_secondTop_16 : decode cX3_secondTop 16 = .ok (.bastore, 1) := by decide +kernel
theorem dX3_secondTop_17 : decode cX3_secondTop 17 = .ok (.return_, 1) := by decide +kernel
theorem dX3_debateTop_0 : decode cX3_debateTop 0 = .ok (.aload_n 0, 1) := by decide +kernel
theorem dX3_debateTop_1 : decode cX3_debateTop 1 = .ok (.invokevirtual 42, 3) := by decide +kernel
theorem dX3_debateTop_4 : decode cX3_debateTop 4 = .ok (.istore_n 1, 1) := by decide +kernel
theorem dX3_debateTop_5 : decode cX3_debateTop 5 = .ok (.iload_n 1, 1) := by decide +kernel
theorem dX3_debateTop_6 : decode cX3_debateTop 6 = .ok (.iconst (-1), 1) := by decide +kernel
theorem dX3_debateTop_7 : decode cX3_debateTop 7 = .ok (.if_icmp .eq 10, 3) := by decide +kernel
theorem dX3_debateTop_10 : decode cX3_debateTop 10 = .ok (.aload_n 0, 1) := by decide +kernel
theorem dX3_debateTop_11 : decode cX3_debateTop 11 = .ok (.getfield 31, 3) := by decide +kernel
theorem dX3_debateTop_14 : decode cX3_debateTop 14 = .ok (.iload_n 1, 1) := by decide +kernel
theorem dX3_debateTop_15 : decode cX3_debateTop 15 = .ok (.iconst 1, 1) := by decide +kernel
theorem dX3_debateTop_16 : decode cX3_debateTop 16 = .ok (.bastore, 1) := by decide +kernel
theorem dX3_debateTop_17 : decode cX3_debateTop 17 = .ok (.return_, 1) := by decide +kernel
theorem dX3_endDebate_0 : decode cX3_endDebate 0 = .ok (.iconst 0, 1) := by decide +kernel
theorem dX3_endDebate_1 : decode cX3_endDebate 1 = .ok (.istore_n 1, 1) := by decide +kernel
theorem dX3_endDebate_2 : decode cX3_endDebate 2 = .ok (.iload_n 1, 1) := by decide +kernel
theorem dX3_endDebate_3 : decode cX3_endDebate 3 = .ok (.aload_n 0, 1) := by decide +kernel
theorem dX3_endDebate_4 : decode cX3_endDebate 4 = .ok (.getfield 38, 3) := by decide +kernel
theorem dX3_endDebate_7 : decode cX3_endDebate 7 = .ok (.if_icmp .ge 22, 3) := by decide +kernel
theorem dX3_endDebate_10 : decode cX3_endDebate 10 = .ok (.iload_n 1, 1) := by decide +kernel
theorem dX3_endDebate_11 : decode cX3_endDebate 11 = .ok (.bipush 8, 2) := by decide +kernel
theorem dX3_endDebate_13 : decode cX3_endDebate 13 = .ok (.if_icmp .ge 16, 3) := by decide +kernel
theorem dX3_endDebate_16 : decode cX3_endDebate 16 = .ok (.aload_n 0, 1) := by decide +kernel
theorem dX3_endDebate_17 : decode cX3_endDebate 17 = .ok (.getfield 31, 3) := by decide +kernel
theorem dX3_endDebate_20 : decode cX3_endDebate 20 = .ok (.iload_n 1, 1) := by decide +kernel
theorem dX3_endDebate_21 : decode cX3_endDebate 21 = .ok (.iconst 1, 1) := by decide +kernel
theorem dX3_endDebate_22 : decode cX3_endDebate 22 = .ok (.bastore, 1) := by decide +kernel
theorem dX3_endDebate_23 : decode cX3_endDebate 23 = .ok (.iinc 1 1, 3) := by decide +kernel
theorem dX3_endDebate_26 : decode cX3_endDebate 26 = .ok (.goto (-24), 3) := by decide +kernel
theorem dX3_endDebate_29 : decode cX3_endDebate 29 = .ok (.return_, 1) := by decide +kernel
theorem dX3_tell_0 : decode cX3_tell 0 = .ok (.iload_n 1, 1) := by decide +kernel
theorem dX3_tell_1 : decode cX3_tell 1 = .ok (.ifCond .lt 17, 3) := by decide +kernel
theorem dX3_tell_4 : decode cX3_tell 4 = .ok (.iload_n 1, 1) := by decide +kernel
theorem dX3_tell_5 : decode cX3_tell 5 = .ok (.aload_n 0, 1) := by decide +kernel
theorem dX3_tell_6 : decode cX3_tell 6 = .ok (.getfield 38, 3) := by decide +kernel
theorem dX3_tell_9 : decode cX3_tell 9 = .ok (.if_icmp .ge 9, 3) := by decide +kernel
theorem dX3_tell_12 : decode cX3_tell 12 = .ok (.iload_n 1, 1) := by decide +kernel
theorem dX3_tell_13 : decode cX3_tell 13 = .ok (.bipush 8, 2) := by decide +kernel
theorem dX3_tell_15 : decode cX3_tell 15 = .ok (.if_icmp .lt 5, 3) := by decide +kernel
theorem dX3_tell_18 : decode cX3_tell 18 = .ok (.iconst (-1), 1) := by decide +kernel
theorem dX3_tell_19 : decode cX3_tell 19 = .ok (.ireturn, 1) := by decide +kernel
theorem dX3_tell_20 : decode cX3_tell 20 = .ok (.iload_n 2, 1) := by decide +kernel
theorem dX3_tell_21 : decode cX3_tell 21 = .ok (.tableswitch 97 0 5 #[39, 46, 53, 60, 67, 82], 39) := by decide +kernel
theorem dX3_tell_60 : decode cX3_tell 60 = .ok (.aload_n 0, 1) := by decide +kernel
theorem dX3_tell_61 : decode cX3_tell 61 = .ok (.getfield 9, 3) := by decide +kernel
theorem dX3_tell_64 : decode cX3_tell 64 = .ok (.iload_n 1, 1) := by decide +kernel
theorem dX3_tell_65 : decode cX3_tell 65 = .ok (.iaload, 1) := by decide +kernel
theorem dX3_tell_66 : decode cX3_tell 66 = .ok (.ireturn, 1) := by decide +kernel
theorem dX3_tell_67 : decode cX3_tell 67 = .ok (.aload_n 0, 1) := by decide +kernel
theorem dX3_tell_68 : decode cX3_tell 68 = .ok (.getfield 15, 3) := by decide +kernel
theorem dX3_tell_71 : decode cX3_tell 71 = .ok (.iload_n 1, 1) := by decide +kernel
theorem dX3_tell_72 : decode cX3_tell 72 = .ok (.iaload, 1) := by decide +kernel
theorem dX3_tell_73 : decode cX3_tell 73 = .ok (.ireturn, 1) := by decide +kernel
theorem dX3_tell_74 : decode cX3_tell 74 = .ok (.aload_n 0, 1) := by decide +kernel
theorem dX3_tell_75 : decode cX3_tell 75 = .ok (.getfield 18, 3) := by decide +kernel
theorem dX3_tell_78 : decode cX3_tell 78 = .ok (.iload_n 1, 1) := by decide +kernel
theorem dX3_tell_79 : decode cX3_tell 79 = .ok (.iaload, 1) := by decide +kernel
theorem dX3_tell_80 : decode cX3_tell 80 = .ok (.ireturn, 1) := by decide +kernel
theorem dX3_tell_81 : decode cX3_tell 81 = .ok (.aload_n 0, 1) := by decide +kernel
theorem dX3_tell_82 : decode cX3_tell 82 = .ok (.getfield 21, 3) := by decide +kernel
theorem dX3_tell_85 : decode cX3_tell 85 = .ok (.iload_n 1, 1) := by decide +kernel
theorem dX3_tell_86 : decode cX3_tell 86 = .ok (.iaload, 1) := by decide +kernel
theorem dX3_tell_87 : decode cX3_tell 87 = .ok (.ireturn, 1) := by decide +kernel
theorem dX3_tell_88 : decode cX3_tell 88 = .ok (.aload_n 0, 1) := by decide +kernel
theorem dX3_tell_89 : decode cX3_tell 89 = .ok (.getfield 27, 3) := by decide +kernel
theorem dX3_tell_92 : decode cX3_tell 92 = .ok (.iload_n 1, 1) := by decide +kernel
theorem dX3_tell_93 : decode cX3_tell 93 = .ok (.baload, 1) := by decide +kernel
theorem dX3_tell_94 : decode cX3_tell 94 = .ok (.ifCond .eq 7, 3) := by decide +kernel
theorem dX3_tell_97 : decode cX3_tell 97 = .ok (.iconst 1, 1) := by decide +kernel
theorem dX3_tell_98 : decode cX3_tell 98 = .ok (.goto 4, 3) := by decide +kernel
theorem dX3_tell_101 : decode cX3_tell 101 = .ok (.iconst 0, 1) := by decide +kernel
theorem dX3_tell_102 : decode cX3_tell 102 = .ok (.ireturn, 1) := by decide +kernel
theorem dX3_tell_103 : decode cX3_tell 103 = .ok (.aload_n 0, 1) := by decide +kernel
theorem dX3_tell_104 : decode cX3_tell 104 = .ok (.getfield 31, 3) := by decide +kernel
theorem dX3_tell_107 : decode cX3_tell 107 = .ok (.iload_n 1, 1) := by decide +kernel
theorem dX3_tell_108 : decode cX3_tell 108 = .ok (.baload, 1) := by decide +kernel
theorem dX3_tell_109 : decode cX3_tell 109 = .ok (.ifCond .eq 7, 3) := by decide +kernel
theorem dX3_tell_112 : decode cX3_tell 112 = .ok (.iconst 1, 1) := by decide +kernel
theorem dX3_tell_113 : decode cX3_tell 113 = .ok (.goto 4, 3) := by decide +kernel
theorem dX3_tell_116 : decode cX3_tell 116 = .ok (.iconst 0, 1) := by decide +kernel
theorem dX3_tell_117 : decode cX3_tell 117 = .ok (.ireturn, 1) := by decide +kernel
theorem dX3_tell_118 : decode cX3_tell 118 = .ok (.iconst (-1), 1) := by decide +kernel
theorem dX3_tell_119 : decode cX3_tell 119 = .ok (.ireturn, 1) := by decide +kernel
theorem dX4_init_0 : decode cX4_init 0 = .ok (.aload_n 0, 1) := by decide +kernel
theorem dX4_init_1 : decode cX4_init 1 = .ok (.invokespecial 3, 3) := by decide +kernel
theorem dX4_init_4 : decode cX4_init 4 = .ok (.aload_n 0, 1) := by decide +kernel
theorem dX4_init_5 : decode cX4_init 5 = .ok (.sipush 320, 3) := by decide +kernel
theorem dX4_init_8 : decode cX4_init 8 = .ok (.newarray .int, 2) := by decide +kernel
theorem dX4_init_10 : decode cX4_init 10 = .ok (.putfield 9, 3) := by decide +kernel
theorem dX4_init_13 : decode cX4_init 13 = .ok (.aload_n 0, 1) := by decide +kernel
theorem dX4_init_14 : decode cX4_init 14 = .ok (.sipush 320, 3) := by decide +kernel
theorem dX4_init_17 : decode cX4_init 17 = .ok (.newarray .int, 2) := by decide +kernel
theorem dX4_init_19 : decode cX4_init 19 = .ok (.putfield 15, 3) := by decide +kernel
theorem dX4_init_22 : decode cX4_init 22 = .ok (.aload_n 0, 1) := by decide +kernel
theorem dX4_init_23 : decode cX4_init 23 = .ok (.sipush 320, 3) := by decide +kernel
theorem dX4_init_26 : decode cX4_init 26 = .ok (.newarray .int, 2) := by decide +kernel
theorem dX4_init_28 : decode cX4_init 28 = .ok (.putfield 18, 3) := by decide +kernel
theorem dX4_init_31 : decode cX4_init 31 = .ok (.return_, 1) := by decide +kernel
theorem dX4_takeAway_0 : decode cX4_takeAway 0 = .ok (.aload_n 0, 1) := by decide +kernel
theorem dX4_takeAway_1 : decode cX4_takeAway 1 = .ok (.iconst 0, 1) := by decide +kernel
theorem dX4_takeAway_2 : decode cX4_takeAway 2 = .ok (.putfield 21, 3) := by decide +kernel
theorem dX4_takeAway_5 : decode cX4_takeAway 5 = .ok (.aload_n 0, 1) := by decide +kernel
theorem dX4_takeAway_6 : decode cX4_takeAway 6 = .ok (.iconst 0, 1) := by decide +kernel
theorem dX4_takeAway_7 : decode cX4_takeAway 7 = .ok (.putfield 25, 3) := by decide +kernel
theorem dX4_takeAway_10 : decode cX4_takeAway 10 = .ok (.aload_n 0, 1) := by decide +kernel
theorem dX4_takeAway_11 : decode cX4_takeAway 11 = .ok (.iconst 0, 1) := by decide +kernel
theorem dX4_takeAway_12 : decode cX4_takeAway 12 = .ok (.putfield 29, 3) := by decide +kernel
theorem dX4_takeAway_15 : decode cX4_takeAway 15 = .ok (.return_, 1) := by decide +kernel
theorem dX4_lay_0 : decode cX4_lay 0 = .ok (.iload_n 1, 1) := by decide +kernel
theorem dX4_lay_1 : decode cX4_lay 1 = .ok (.iconst 1, 1) := by decide +kernel
theorem dX4_lay_2 : decode cX4_lay 2 = .ok (.if_icmp .lt 9, 3) := by decide +kernel
theorem dX4_lay_5 : decode cX4_lay 5 = .ok (.iload_n 1, 1) := by decide +kernel
theorem dX4_lay_6 : decode cX4_lay 6 = .ok (.bipush 20, 2) := by decide +kernel
theorem dX4_lay_8 : decode cX4_lay 8 = .ok (.if_icmp .le 4, 3) := by decide +kernel
theorem dX4_lay_11 : decode cX4_lay 11 = .ok (.return_, 1) := by decide +kernel
theorem dX4_lay_12 : decode cX4_lay 12 = .ok (.aload_n 0, 1) := by decide +kernel
theorem dX4_lay_13 : decode cX4_lay 13 = .ok (.invokevirtual 32, 3) := by decide +kernel
theorem dX4_lay_16 : decode cX4_lay 16 = .ok (.aload_n 0, 1) := by decide +kernel
theorem dX4_lay_17 : decode cX4_lay 17 = .ok (.iconst 1, 1) := by decide +kernel
theorem dX4_lay_18 : decode cX4_lay 18 = .ok (.putfield 21, 3) := by decide +kernel
theorem dX4_lay_21 : decode cX4_lay 21 = .ok (.iconst 0, 1) := by decide +kernel
theorem dX4_lay_22 : decode cX4_lay 22 = .ok (.istore_n 3, 1) := by decide +kernel
theorem dX4_lay_23 : decode cX4_lay 23 = .ok (.iload_n 3, 1) := by decide +kernel
theorem dX4_lay_24 : decode cX4_lay 24 = .ok (.iload_n 1, 1) := by decide +kernel
theorem dX4_lay_25 : decode cX4_lay 25 = .ok (.if_icmp .ge 24, 3) := by decide +kernel
theorem dX4_lay_28 : decode cX4_lay 28 = .ok (.iload_n 3, 1) := by decide +kernel
theorem dX4_lay_29 : decode cX4_lay 29 = .ok (.sipush 320, 3) := by decide +kernel
theorem dX4_lay_32 : decode cX4_lay 32 = .ok (.if_icmp .ge 17, 3) := by decide +kernel
theorem dX4_lay_35 : decode cX4_lay 35 = .ok (.aload_n 0, 1) := by decide +kernel
theorem dX4_lay_36 : decode cX4_lay 36 = .ok (.iload_n 3, 1) := by decide +kernel
theorem dX4_lay_37 : decode cX4_lay 37 = .ok (.iload_n 2, 1) := by decide +kernel
theorem dX4_lay_38 : decode cX4_lay 38 = .ok (.iload_n 3, 1) := by decide +kernel
theorem dX4_lay_39 : decode cX4_lay 39 = .ok (.iadd, 1) := by decide +kernel
theorem dX4_lay_40 : decode cX4_lay 40 = .ok (.invokevirtual 35, 3) := by decide +kernel
theorem dX4_lay_43 : decode cX4_lay 43 = .ok (.iinc 3 1, 3) := by decide +kernel
theorem dX4_lay_46 : decode cX4_lay 46 = .ok (.goto (-23), 3) := by decide +kernel
theorem dX4_lay_49 : decode cX4_lay 49 = .ok (.return_, 1) := by decide +kernel
theorem dX4_wasEver_0 : decode cX4_wasEver 0 = .ok (.iload_n 1, 1) := by decide +kernel
theorem dX4_wasEver_1 : decode cX4_wasEver 1 = .ok (.ifCond .lt 22, 3) := by decide +kernel
theorem dX4_wasEver_4 : decode cX4_wasEver 4 = .ok (.iload_n 1, 1) := by decide +kernel
theorem dX4_wasEver_5 : decode cX4_wasEver 5 = .ok (.aload_n 0, 1) := by decide +kernel
theorem dX4_wasEver_6 : decode cX4_wasEver 6 = .ok (.getfield 25, 3) := by decide +kernel
theorem dX4_wasEver_9 : decode cX4_wasEver 9 = .ok (.if_icmp .ge 14, 3) := by decide +kernel
theorem dX4_wasEver_12 : decode cX4_wasEver 12 = .ok (.iload_n 1, 1) := by decide +kernel
theorem dX4_wasEver_13 : decode cX4_wasEver 13 = .ok (.sipush 320, 3) := by decide +kernel
theorem dX4_wasEver_16 : decode cX4_wasEver 16 = .ok (.if_icmp .ge 7, 3) := by decide +kernel
theorem dX4_wasEver_19 : decode cX4_wasEver 19 = .ok (.iconst 1, 1) := by decide +kernel
theorem dX4_wasEver_20 : decode cX4_wasEver 20 = .ok (.goto 4, 3) := by decide +kernel
theorem dX4_wasEver_23 : decode cX4_wasEver 23 = .ok (.iconst 0, 1) := by decide +kernel
theorem dX4_wasEver_24 : decode cX4_wasEver 24 = .ok (.ireturn, 1) := by decide +kernel
theorem dX4_isThere_0 : decode cX4_isThere 0 = .ok (.iload_n 1, 1) := by decide +kernel
theorem dX4_isThere_1 : decode cX4_isThere 1 = .ok (.ifCond .lt 31, 3) := by decide +kernel
theorem dX4_isThere_4 : decode cX4_isThere 4 = .ok (.iload_n 1, 1) := by decide +kernel
theorem dX4_isThere_5 : decode cX4_isThere 5 = .ok (.aload_n 0, 1) := by decide +kernel
theorem dX4_isThere_6 : decode cX4_isThere 6 = .ok (.getfield 25, 3) := by decide +kernel
theorem dX4_isThere_9 : decode cX4_isThere 9 = .ok (.if_icmp .ge 23, 3) := by decide +kernel
theorem dX4_isThere_12 : decode cX4_isThere 12 = .ok (.iload_n 1, 1) := by decide +kernel
theorem dX4_isThere_13 : decode cX4_isThere 13 = .ok (.sipush 320, 3) := by decide +kernel
theorem dX4_isThere_16 : decode cX4_isThere 16 = .ok (.if_icmp .ge 16, 3) := by decide +kernel
theorem dX4_isThere_19 : decode cX4_isThere 19 = .ok (.aload_n 0, 1) := by decide +kernel
theorem dX4_isThere_20 : decode cX4_isThere 20 = .ok (.getfield 18, 3) := by decide +kernel
theorem dX4_isThere_23 : decode cX4_isThere 23 = .ok (.iload_n 1, 1) := by decide +kernel
theorem dX4_isThere_24 : decode cX4_isThere 24 = .ok (.iaload, 1) := by decide +kernel
theorem dX4_isThere_25 : decode cX4_isThere 25 = .ok (.ifCond .ne 7, 3) := by decide +kernel
theorem dX4_isThere_28 : decode cX4_isThere 28 = .ok (.iconst 1, 1) := by decide +kernel
theorem dX4_isThere_29 : decode cX4_isThere 29 = .ok (.goto 4, 3) := by decide +kernel
theorem dX4_isThere_32 : decode cX4_isThere 32 = .ok (.iconst 0, 1) := by decide +kernel
theorem dX4_isThere_33 : decode cX4_isThere 33 = .ok (.ireturn, 1) := by decide +kernel
theorem dX4_mayAmend_0 : decode cX4_mayAmend 0 = .ok (.iload_n 1, 1) := by decide +kernel
theorem dX4_mayAmend_1 : decode cX4_mayAmend 1 = .ok (.iconst 4, 1) := by decide +kernel
theorem dX4_mayAmend_2 : decode cX4_mayAmend 2 = .ok (.idiv, 1) := by decide +kernel
theorem dX4_mayAmend_3 : decode cX4_mayAmend 3 = .ok (.istore_n 2, 1) := by decide +kernel
theorem dX4_mayAmend_4 : decode cX4_mayAmend 4 = .ok (.aload_n 0, 1) := by decide +kernel
theorem dX4_mayAmend_5 : decode cX4_mayAmend 5 = .ok (.iload_n 2, 1) := by decide +kernel
theorem dX4_mayAmend_6 : decode cX4_mayAmend 6 = .ok (.invokevirtual 39, 3) := by decide +kernel
theorem dX4_mayAmend_9 : decode cX4_mayAmend 9 = .ok (.ifCond .ne 5, 3) := by decide +kernel
theorem dX4_mayAmend_12 : decode cX4_mayAmend 12 = .ok (.iconst 0, 1) := by decide +kernel
theorem dX4_mayAmend_13 : decode cX4_mayAmend 13 = .ok (.ireturn, 1) := by decide +kernel
theorem dX4_mayAmend_14 : decode cX4_mayAmend 14 = .ok (.iload_n 1, 1) := by decide +kernel
theorem dX4_mayAmend_15 : decode cX4_mayAmend 15 = .ok (.iconst 4, 1) := by decide +kernel
theorem dX4_mayAmend_16 : decode cX4_mayAmend 16 = .ok (.irem, 1) := by decide +kernel
theorem dX4_mayAmend_17 : decode cX4_mayAmend 17 = .ok (.lookupswitch 57 #[(0, 27), (3, 42)], 27) := by decide +kernel
theorem dX4_mayAmend_44 : decode cX4_mayAmend 44 = .ok (.aload_n 0, 1) := by decide +kernel
theorem dX4_mayAmend_45 : decode cX4_mayAmend 45 = .ok (.getfield 29, 3) := by decide +kernel
theorem dX4_mayAmend_48 : decode cX4_mayAmend 48 = .ok (.bipush 40, 2) := by decide +kernel
theorem dX4_mayAmend_50 : decode cX4_mayAmend 50 = .ok (.if_icmp .ge 7, 3) := by decide +kernel
theorem dX4_mayAmend_53 : decode cX4_mayAmend 53 = .ok (.iconst 1, 1) := by decide +kernel
theorem dX4_mayAmend_54 : decode cX4_mayAmend 54 = .ok (.goto 4, 3) := by decide +kernel
theorem dX4_mayAmend_57 : decode cX4_mayAmend 57 = .ok (.iconst 0, 1) := by decide +kernel
theorem dX4_mayAmend_58 : decode cX4_mayAmend 58 = .ok (.ireturn, 1) := by decide +kernel
theorem dX4_mayAmend_59 : decode cX4_mayAmend 59 = .ok (.aload_n 0, 1) := by decide +kernel
theorem dX4_mayAmend_60 : decode cX4_mayAmend 60 = .ok (.iload_n 2, 1) := by decide +kernel
theorem dX4_mayAmend_61 : decode cX4_mayAmend 61 = .ok (.invokevirtual 43, 3) := by decide +kernel
theorem dX4_mayAmend_64 : decode cX4_mayAmend 64 = .ok (.iconst (-1), 1) := by decide +kernel
theorem dX4_mayAmend_65 : decode cX4_mayAmend 65 = .ok (.if_icmp .eq 7, 3) := by decide +kernel
theorem dX4_mayAmend_68 : decode cX4_mayAmend 68 = .ok (.iconst 1, 1) := by decide +kernel
theorem dX4_mayAmend_69 : decode cX4_mayAmend 69 = .ok (.goto 4, 3) := by decide +kernel
theorem dX4_mayAmend_72 : decode cX4_mayAmend 72 = .ok (.iconst 0, 1) := by decide +kernel
theorem dX4_mayAmend_73 : decode cX4_mayAmend 73 = .ok (.ireturn, 1) := by decide +kernel
theorem dX4_mayAmend_74 : decode cX4_mayAmend 74 = .ok (.iconst 1, 1) := by decide +kernel
theorem dX4_mayAmend_75 : decode cX4_mayAmend 75 = .ok (.ireturn, 1) := by decide +kernel
theorem dX4_amend_0 : decode cX4_amend 0 = .ok (.iload_n 1, 1) := by decide +kernel
theorem dX4_amend_1 : decode cX4_amend 1 = .ok (.iconst 4, 1) := by decide +kernel
theorem dX4_amend_2 : decode cX4_amend 2 = .ok (.idiv, 1) := by decide +kernel
theorem dX4_amend_3 : decode cX4_amend 3 = .ok (.istore_n 3, 1) := by decide +kernel
theorem dX4_amend_4 : decode cX4_amend 4 = .ok (.iload_n 1, 1) := by decide +kernel
theorem dX4_amend_5 : decode cX4_amend 5 = .ok (.iconst 4, 1) := by decide +kernel
theorem dX4_amend_6 : decode cX4_amend 6 = .ok (.irem, 1) := by decide +kernel
theorem dX4_amend_7 : decode cX4_amend 7 = .ok (.istore 4, 2) := by decide +kernel
theorem dX4_amend_9 : decode cX4_amend 9 = .ok (.iload 4, 2) := by decide +kernel
theorem dX4_amend_11 : decode cX4_amend 11 = .ok (.ifCond .ne 10, 3) := by decide +kernel
theorem dX4_amend_14 : decode cX4_amend 14 = .ok (.aload_n 0, 1) := by decide +kernel
theorem dX4_amend_15 : decode cX4_amend 15 = .ok (.iload_n 3, 1) := by decide +kernel
theorem dX4_amend_16 : decode cX4_amend 16 = .ok (.iload_n 2, 1) := by decide +kernel
theorem dX4_amend_17 : decode cX4_amend 17 = .ok (.invokevirtual 47, 3) := by decide +kernel
theorem dX4_amend_20 : decode cX4_amend 20 = .ok (.return_, 1) := by decide +kernel
theorem dX4_amend_21 : decode cX4_amend 21 = .ok (.aload_n 0, 1) := by decide +kernel
theorem dX4_amend_22 : decode cX4_amend 22 = .ok (.iload_n 3, 1) := by decide +kernel
theorem dX4_amend_23 : decode cX4_amend 23 = .ok (.invokevirtual 39, 3) := by decide +kernel
theorem dX4_amend_26 : decode cX4_amend 26 = .ok (.ifCond .ne 4, 3) := by decide +kernel
theorem dX4_amend_29 : decode cX4_amend 29 = .ok (.return_, 1) := by decide +kernel
theorem dX4_amend_30 : decode cX4_amend 30 = .ok (.iload 4, 2) := by decide +kernel
theorem dX4_amend_32 : decode cX4_amend 32 = .ok (.iconst 1, 1) := by decide +kernel
theorem dX4_amend_33 : decode cX4_amend 33 = .ok (.if_icmp .ne 11, 3) := by decide +kernel
theorem dX4_amend_36 : decode cX4_amend 36 = .ok (.aload_n 0, 1) := by decide +kernel
theorem dX4_amend_37 : decode cX4_amend 37 = .ok (.iload_n 3, 1) := by decide +kernel
theorem dX4_amend_38 : decode cX4_amend 38 = .ok (.invokevirtual 50, 3) := by decide +kernel
theorem dX4_amend_41 : decode cX4_amend 41 = .ok (.goto 59, 3) := by decide +kernel
theorem dX4_amend_44 : decode cX4_amend 44 = .ok (.iload 4, 2) := by decide +kernel
theorem dX4_amend_46 : decode cX4_amend 46 = .ok (.iconst 2, 1) := by decide +kernel
theorem dX4_amend_47 : decode cX4_amend 47 = .ok (.if_icmp .ne 13, 3) := by decide +kernel
theorem dX4_amend_50 : decode cX4_amend 50 = .ok (.aload_n 0, 1) := by decide +kernel
theorem dX4_amend_51 : decode cX4_amend 51 = .ok (.getfield 15, 3) := by decide +kernel
theorem dX4_amend_54 : decode cX4_amend 54 = .ok (.iload_n 3, 1) := by decide +kernel
theorem dX4_amend_55 : decode cX4_amend 55 = .ok (.iload_n 2, 1) := by decide +kernel
theorem dX4_amend_56 : decode cX4_amend 56 = .ok (.iastore, 1) := by decide +kernel
theorem dX4_amend_57 : decode cX4_amend 57 = .ok (.goto 43, 3) := by decide +kernel
theorem dX4_amend_60 : decode cX4_amend 60 = .ok (.iload 4, 2) := by decide +kernel
theorem dX4_amend_62 : decode cX4_amend 62 = .ok (.iconst 3, 1) := by decide +kernel
theorem dX4_amend_63 : decode cX4_amend 63 = .ok (.if_icmp .ne 37, 3) := by decide +kernel
theorem dX4_amend_66 : decode cX4_amend 66 = .ok (.aload_n 0, 1) := by decide +kernel
theorem dX4_amend_67 : decode cX4_amend 67 = .ok (.iload_n 3, 1) := by decide +kernel
theorem dX4_amend_68 : decode cX4_amend 68 = .ok (.invokevirtual 43, 3) := by decide +kernel
theorem dX4_amend_71 : decode cX4_amend 71 = .ok (.istore 5, 2) := by decide +kernel
theorem dX4_amend_73 : decode cX4_amend 73 = .ok (.aload_n 0, 1) := by decide +kernel
theorem dX4_amend_74 : decode cX4_amend 74 = .ok (.getfield 15, 3) := by decide +kernel
theorem dX4_amend_77 : decode cX4_amend 77 = .ok (.iload_n 3, 1) := by decide +kernel
theorem dX4_amend_78 : decode cX4_amend 78 = .ok (.aload_n 0, 1) := by decide +kernel
theorem dX4_amend_79 : decode cX4_amend 79 = .ok (.getfield 15, 3) := by decide +kernel
theorem dX4_amend_82 : decode cX4_amend 82 = .ok (.iload_n 3, 1) := by decide +kernel
theorem dX4_amend_83 : decode cX4_amend 83 = .ok (.iaload, 1) := by decide +kernel
theorem dX4_amend_84 : decode cX4_amend 84 = .ok (.aload_n 0, 1) := by decide +kernel
theorem dX4_amend_85 : decode cX4_amend 85 = .ok (.iload 5, 2) := by decide +kernel
theorem dX4_amend_87 : decode cX4_amend 87 = .ok (.invokevirtual 54, 3) := by decide +kernel
theorem dX4_amend_90 : decode cX4_amend 90 = .ok (.invokestatic 57, 3) := by decide +kernel
theorem dX4_amend_93 : decode cX4_amend 93 = .ok (.iastore, 1) := by decide +kernel
theorem dX4_amend_94 : decode cX4_amend 94 = .ok (.aload_n 0, 1) := by decide +kernel
theorem dX4_amend_95 : decode cX4_amend 95 = .ok (.iload 5, 2) := by decide +kernel
theorem dX4_amend_97 : decode cX4_amend 97 = .ok (.invokevirtual 50, 3) := by decide +kernel
theorem dX4_amend_100 : decode cX4_amend 100 = .ok (.return_, 1) := by decide +kernel
theorem dX4_numberAt_0 : decode cX4_numberAt 0 = .ok (.iconst 0, 1) := by decide +kernel
theorem dX4_numberAt_1 : decode cX4_numberAt 1 = .ok (.istore_n 2, 1) := by decide +kernel
theorem dX4_numberAt_2 : decode cX4_numberAt 2 = .ok (.iconst 0, 1) := by decide +kernel
theorem dX4_numberAt_3 : decode cX4_numberAt 3 = .ok (.istore_n 3, 1) := by decide +kernel
theorem dX4_numberAt_4 : decode cX4_numberAt 4 = .ok (.iload_n 3, 1) := by decide +kernel
theorem dX4_numberAt_5 : decode cX4_numberAt 5 = .ok (.aload_n 0, 1) := by decide +kernel
theorem dX4_numberAt_6 : decode cX4_numberAt 6 = .ok (.getfield 25, 3) := by decide +kernel
theorem dX4_numberAt_9 : decode cX4_numberAt 9 = .ok (.if_icmp .ge 44, 3) := by decide +kernel
theorem dX4_numberAt_12 : decode cX4_numberAt 12 = .ok (.iload_n 3, 1) := by decide +kernel
theorem dX4_numberAt_13 : decode cX4_numberAt 13 = .ok (.sipush 320, 3) := by decide +kernel
theorem dX4_numberAt_16 : decode cX4_numberAt 16 = .ok (.if_icmp .ge 37, 3) := by decide +kernel
theorem dX4_numberAt_19 : decode cX4_numberAt 19 = .ok (.aload_n 0, 1) := by decide +kernel
theorem dX4_numberAt_20 : decode cX4_numberAt 20 = .ok (.aload_n 0, 1) := by decide +kernel
theorem dX4_numberAt_21 : decode cX4_numberAt 21 = .ok (.getfield 9, 3) := by decide +kernel
theorem dX4_numberAt_24 : decode cX4_numberAt 24 = .ok (.iload_n 3, 1) := by decide +kernel
theorem dX4_numberAt_25 : decode cX4_numberAt 25 = .ok (.iaload, 1) := by decide +kernel
theorem dX4_numberAt_26 : decode cX4_numberAt 26 = .ok (.invokevirtual 39, 3) := by decide +kernel
theorem dX4_numberAt_29 : decode cX4_numberAt 29 = .ok (.ifCond .eq 18, 3) := by decide +kernel
theorem dX4_numberAt_32 : decode cX4_numberAt 32 = .ok (.iload_n 2, 1) := by decide +kernel
theorem dX4_numberAt_33 : decode cX4_numberAt 33 = .ok (.iload_n 1, 1) := by decide +kernel
theorem dX4_numberAt_34 : decode cX4_numberAt 34 = .ok (.if_icmp .ne 10, 3) := by decide +kernel
theorem dX4_numberAt_37 : decode cX4_numberAt 37 = .ok (.aload_n 0, 1) := by decide +kernel
theorem dX4_numberAt_38 : decode cX4_numberAt 38 = .ok (.getfield 9, 3) := by decide +kernel
theorem dX4_numberAt_41 : decode cX4_numberAt 41 = .ok (.iload_n 3, 1) := by decide +kernel
theorem dX4_numberAt_42 : decode cX4_numberAt 42 = .ok (.iaload, 1) := by decide +kernel
theorem dX4_numberAt_43 : decode cX4_numberAt 43 = .ok (.ireturn, 1) := by decide +kernel
theorem dX4_numberAt_44 : decode cX4_numberAt 44 = .ok (.iinc 2 1, 3) := by decide +kernel
theorem dX4_numberAt_47 : decode cX4_numberAt 47 = .ok (.iinc 3 1, 3) := by decide +kernel
theorem dX4_numberAt_50 : decode cX4_numberAt 50 = .ok (.goto (-46), 3) := by decide +kernel
theorem dX4_numberAt_53 : decode cX4_numberAt 53 = .ok (.iconst (-1), 1) := by decide +kernel
theorem dX4_numberAt_54 : decode cX4_numberAt 54 = .ok (.ireturn, 1) := by decide +kernel
theorem dX4_placeOf_0 : decode cX4_placeOf 0 = .ok (.iconst 0, 1) := by decide +kernel
theorem dX4_placeOf_1 : decode cX4_placeOf 1 = .ok (.istore_n 2, 1) := by decide +kernel
theorem dX4_placeOf_2 : decode cX4_placeOf 2 = .ok (.iconst 0, 1) := by decide +kernel
theorem dX4_placeOf_3 : decode cX4_placeOf 3 = .ok (.istore_n 3, 1) := by decide +kernel
theorem dX4_placeOf_4 : decode cX4_placeOf 4 = .ok (.iload_n 3, 1) := by decide +kernel
theorem dX4_placeOf_5 : decode cX4_placeOf 5 = .ok (.aload_n 0, 1) := by decide +kernel
theorem dX4_placeOf_6 : decode cX4_placeOf 6 = .ok (.getfield 25, 3) := by decide +kernel
theorem dX4_placeOf_9 : decode cX4_placeOf 9 = .ok (.if_icmp .ge 44, 3) := by decide +kernel
theorem dX4_placeOf_12 : decode cX4_placeOf 12 = .ok (.iload_n 3, 1) := by decide +kernel
theorem dX4_placeOf_13 : decode cX4_placeOf 13 = .ok (.sipush 320, 3) := by decide +kernel
theorem dX4_placeOf_16 : decode cX4_placeOf 16 = .ok (.if_icmp .ge 37, 3) := by decide +kernel
theorem dX4_placeOf_19 : decode cX4_placeOf 19 = .ok (.aload_n 0, 1) := by decide +kernel
theorem dX4_placeOf_20 : decode cX4_placeOf 20 = .ok (.aload_n 0, 1) := by decide +kernel
theorem dX4_placeOf_21 : decode cX4_placeOf 21 = .ok (.getfield 9, 3) := by decide +kernel
theorem dX4_placeOf_24 : decode cX4_placeOf 24 = .ok (.iload_n 3, 1) := by decide +kernel
theorem dX4_placeOf_25 : decode cX4_placeOf 25 = .ok (.iaload, 1) := by decide +kernel
theorem dX4_placeOf_26 : decode cX4_placeOf 26 = .ok (.invokevirtual 39, 3) := by decide +kernel
theorem dX4_placeOf_29 : decode cX4_placeOf 29 = .ok (.ifCond .eq 18, 3) := by decide +kernel
theorem dX4_placeOf_32 : decode cX4_placeOf 32 = .ok (.aload_n 0, 1) := by decide +kernel
theorem dX4_placeOf_33 : decode cX4_placeOf 33 = .ok (.getfield 9, 3) := by decide +kernel
theorem dX4_placeOf_36 : decode cX4_placeOf 36 = .ok (.iload_n 3, 1) := by decide +kernel
theorem dX4_placeOf_37 : decode cX4_placeOf 37 = .ok (.iaload, 1) := by decide +kernel
theorem dX4_placeOf_38 : decode cX4_placeOf 38 = .ok (.iload_n 1, 1) := by decide +kernel
theorem dX4_placeOf_39 : decode cX4_placeOf 39 = .ok (.if_icmp .ne 5, 3) := by decide +kernel
theorem dX4_placeOf_42 : decode cX4_placeOf 42 = .ok (.iload_n 2, 1) := by decide +kernel
theorem dX4_placeOf_43 : decode cX4_placeOf 43 = .ok (.ireturn, 1) := by decide +kernel
theorem dX4_placeOf_44 : decode cX4_placeOf 44 = .ok (.iinc 2 1, 3) := by decide +kernel
theorem dX4_placeOf_47 : decode cX4_placeOf 47 = .ok (.iinc 3 1, 3) := by decide +kernel
theorem dX4_placeOf_50 : decode cX4_placeOf 50 = .ok (.goto (-46), 3) := by decide +kernel
theorem dX4_placeOf_53 : decode cX4_placeOf 53 = .ok (.iconst (-1), 1) := by decide +kernel
theorem dX4_placeOf_54 : decode cX4_placeOf 54 = .ok (.ireturn, 1) := by decide +kernel
theorem dX4_textOf_0 : decode cX4_textOf 0 = .ok (.aload_n 0, 1) := by decide +kernel
theorem dX4_textOf_1 : decode cX4_textOf 1 = .ok (.iload_n 1, 1) := by decide +kernel
theorem dX4_textOf_2 : decode cX4_textOf 2 = .ok (.invokevirtual 39, 3) := by decide +kernel
theorem dX4_textOf_5 : decode cX4_textOf 5 = .ok (.ifCond .eq 12, 3) := by decide +kernel
theorem dX4_textOf_8 : decode cX4_textOf 8 = .ok (.aload_n 0, 1) := by decide +kernel
theorem dX4_textOf_9 : decode cX4_textOf 9 = .ok (.getfield 15, 3) := by decide +kernel
theorem dX4_textOf_12 : decode cX4_textOf 12 = .ok (.iload_n 1, 1) := by decide +kernel
theorem dX4_textOf_13 : decode cX4_textOf 13 = .ok (.iaload, 1) := by decide +kernel
theorem dX4_textOf_14 : decode cX4_textOf 14 = .ok (.goto 4, 3) := by decide +kernel
theorem dX4_textOf_17 : decode cX4_textOf 17 = .ok (.iconst (-1), 1) := by decide +kernel
theorem dX4_textOf_18 : decode cX4_textOf 18 = .ok (.ireturn, 1) := by decide +kernel
theorem dX4_remove_0 : decode cX4_remove 0 = .ok (.aload_n 0, 1) := by decide +kernel
theorem dX4_remove_1 : decode cX4_remove 1 = .ok (.iload_n 1, 1) := by decide +kernel
theorem dX4_remove_2 : decode cX4_remove 2 = .ok (.invokevirtual 39, 3) := by decide +kernel
theorem dX4_remove_5 : decode cX4_remove 5 = .ok (.ifCond .eq 23, 3) := by decide +kernel
theorem dX4_remove_8 : decode cX4_remove 8 = .ok (.aload_n 0, 1) := by decide +kernel
theorem dX4_remove_9 : decode cX4_remove 9 = .ok (.getfield 18, 3) := by decide +kernel
theorem dX4_remove_12 : decode cX4_remove 12 = .ok (.iload_n 1, 1) := by decide +kernel
theorem dX4_remove_13 : decode cX4_remove 13 = .ok (.aload_n 0, 1) := by decide +kernel
theorem dX4_remove_14 : decode cX4_remove 14 = .ok (.getfield 25, 3) := by decide +kernel
theorem dX4_remove_17 : decode cX4_remove 17 = .ok (.iastore, 1) := by decide +kernel
theorem dX4_remove_18 : decode cX4_remove 18 = .ok (.aload_n 0, 1) := by decide +kernel
theorem dX4_remove_19 : decode cX4_remove 19 = .ok (.dup, 1) := by decide +kernel
theorem dX4_remove_20 : decode cX4_remove 20 = .ok (.getfield 29, 3) := by decide +kernel
theorem dX4_remove_23 : decode cX4_remove 23 = .ok (.iconst 1, 1) := by decide +kernel
theorem dX4_remove_24 : decode cX4_remove 24 = .ok (.isub, 1) := by decide +kernel
theorem dX4_remove_25 : decode cX4_remove 25 = .ok (.putfield 29, 3) := by decide +kernel
theorem dX4_remove_28 : decode cX4_remove 28 = .ok (.return_, 1) := by decide +kernel
theorem dX4_behind_0 : decode cX4_behind 0 = .ok (.iconst 0, 1) := by decide +kernel
theorem dX4_behind_1 : decode cX4_behind 1 = .ok (.istore_n 2, 1) := by decide +kernel
theorem dX4_behind_2 : decode cX4_behind 2 = .ok (.iconst 0, 1) := by decide +kernel
theorem dX4_behind_3 : decode cX4_behind 3 = .ok (.istore_n 3, 1) := by decide +kernel
theorem dX4_behind_4 : decode cX4_behind 4 = .ok (.iload_n 3, 1) := by decide +kernel
theorem dX4_behind_5 : decode cX4_behind 5 = .ok (.aload_n 0, 1) := by decide +kernel
theorem dX4_behind_6 : decode cX4_behind 6 = .ok (.getfield 25, 3) := by decide +kernel
theorem dX4_behind_9 : decode cX4_behind 9 = .ok (.if_icmp .ge 60, 3) := by decide +kernel
theorem dX4_behind_12 : decode cX4_behind 12 = .ok (.iload_n 3, 1) := by decide +kernel
theorem dX4_behind_13 : decode cX4_behind 13 = .ok (.sipush 320, 3) := by decide +kernel
theorem dX4_behind_16 : decode cX4_behind 16 = .ok (.if_icmp .ge 53, 3) := by decide +kernel
theorem dX4_behind_19 : decode cX4_behind 19 = .ok (.iload_n 2, 1) := by decide +kernel
theorem dX4_behind_20 : decode cX4_behind 20 = .ok (.ifCond .eq 23, 3) := by decide +kernel
theorem dX4_behind_23 : decode cX4_behind 23 = .ok (.aload_n 0, 1) := by decide +kernel
theorem dX4_behind_24 : decode cX4_behind 24 = .ok (.aload_n 0, 1) := by decide +kernel
theorem dX4_behind_25 : decode cX4_behind 25 = .ok (.getfield 9, 3) := by decide +kernel
theorem dX4_behind_28 : decode cX4_behind 28 = .ok (.iload_n 3, 1) := by decide +kernel
theorem dX4_behind_29 : decode cX4_behind 29 = .ok (.iaload, 1) := by decide +kernel
theorem dX4_behind_30 : decode cX4_behind 30 = .ok (.invokevirtual 39, 3) := by decide +kernel
theorem dX4_behind_33 : decode cX4_behind 33 = .ok (.ifCond .eq 10, 3) := by decide +kernel
theorem dX4_behind_36 : decode cX4_behind 36 = .ok (.aload_n 0, 1) := by decide +kernel
theorem dX4_behind_37 : decode cX4_behind 37 = .ok (.getfield 9, 3) := by decide +kernel
theorem dX4_behind_40 : decode cX4_behind 40 = .ok (.iload_n 3, 1) := by decide +kernel
theorem dX4_behind_41 : decode cX4_behind 41 = .ok (.iaload, 1) := by decide +kernel
theorem dX4_behind_42 : decode cX4_behind 42 = .ok (.ireturn, 1) := by decide +kernel
theorem dX4_behind_43 : decode cX4_behind 43 = .ok (.iload_n 2, 1) := by decide +kernel
theorem dX4_behind_44 : decode cX4_behind 44 = .ok (.ifCond .ne 13, 3) := by decide +kernel
theorem dX4_behind_47 : decode cX4_behind 47 = .ok (.aload_n 0, 1) := by decide +kernel
theorem dX4_behind_48 : decode cX4_behind 48 = .ok (.getfield 9, 3) := by decide +kernel
theorem dX4_behind_51 : decode cX4_behind 51 = .ok (.iload_n 3, 1) := by decide +kernel
theorem dX4_behind_52 : decode cX4_behind 52 = .ok (.iaload, 1) := by decide +kernel
theorem dX4_behind_53 : decode cX4_behind 53 = .ok (.iload_n 1, 1) := by decide +kernel
theorem dX4_behind_54 : decode cX4_behind 54 = .ok (.if_icmp .ne 7, 3) := by decide +kernel
theorem dX4_behind_57 : decode cX4_behind 57 = .ok (.iconst 1, 1) := by decide +kernel
theorem dX4_behind_58 : decode cX4_behind 58 = .ok (.goto 4, 3) := by decide +kernel
theorem dX4_behind_61 : decode cX4_behind 61 = .ok (.iconst 0, 1) := by decide +kernel
theorem dX4_behind_62 : decode cX4_behind 62 = .ok (.istore_n 2, 1) := by decide +kernel
theorem dX4_behind_63 : decode cX4_behind 63 = .ok (.iinc 3 1, 3) := by decide +kernel
theorem dX4_behind_66 : decode cX4_behind 66 = .ok (.goto (-62), 3) := by decide +kernel
theorem dX4_behind_69 : decode cX4_behind 69 = .ok (.iconst (-1), 1) := by decide +kernel
theorem dX4_behind_70 : decode cX4_behind 70 = .ok (.ireturn, 1) := by decide +kernel
theorem dX4_addBehind_0 : decode cX4_addBehind 0 = .ok (.aload_n 0, 1) := by decide +kernel
theorem dX4_addBehind_1 : decode cX4_addBehind 1 = .ok (.iload_n 1, 1) := by decide +kernel
theorem dX4_addBehind_2 : decode cX4_addBehind 2 = .ok (.invokevirtual 63, 3) := by decide +kernel
theorem dX4_addBehind_5 : decode cX4_addBehind 5 = .ok (.ifCond .eq 12, 3) := by decide +kernel
theorem dX4_addBehind_8 : decode cX4_addBehind 8 = .ok (.aload_n 0, 1) := by decide +kernel
theorem dX4_addBehind_9 : decode cX4_addBehind 9 = .ok (.getfield 29, 3) := by decide +kernel
theorem dX4_addBehind_12 : decode cX4_addBehind 12 = .ok (.bipush 40, 2) := by decide +kernel
theorem dX4_addBehind_14 : decode cX4_addBehind 14 = .ok (.if_icmp .lt 4, 3) := by decide +kernel
theorem dX4_addBehind_17 : decode cX4_addBehind 17 = .ok (.return_, 1) := by decide +kernel
theorem dX4_addBehind_18 : decode cX4_addBehind 18 = .ok (.aload_n 0, 1) := by decide +kernel
theorem dX4_addBehind_19 : decode cX4_addBehind 19 = .ok (.iload_n 1, 1) := by decide +kernel
theorem dX4_addBehind_20 : decode cX4_addBehind 20 = .ok (.invokevirtual 39, 3) := by decide +kernel
theorem dX4_addBehind_23 : decode cX4_addBehind 23 = .ok (.ifCond .eq 10, 3) := by decide +kernel
theorem dX4_addBehind_26 : decode cX4_addBehind 26 = .ok (.aload_n 0, 1) := by decide +kernel
theorem dX4_addBehind_27 : decode cX4_addBehind 27 = .ok (.getfield 25, 3) := by decide +kernel
theorem dX4_addBehind_30 : decode cX4_addBehind 30 = .ok (.goto 9, 3) := by decide +kernel
theorem dX4_addBehind_33 : decode cX4_addBehind 33 = .ok (.aload_n 0, 1) := by decide +kernel
theorem dX4_addBehind_34 : decode cX4_addBehind 34 = .ok (.getfield 18, 3) := by decide +kernel
theorem dX4_addBehind_37 : decode cX4_addBehind 37 = .ok (.iload_n 1, 1) := by decide +kernel
theorem dX4_addBehind_38 : decode cX4_addBehind 38 = .ok (.iaload, 1) := by decide +kernel
theorem dX4_addBehind_39 : decode cX4_addBehind 39 = .ok (.istore_n 3, 1) := by decide +kernel
theorem dX4_addBehind_40 : decode cX4_addBehind 40 = .ok (.iconst 0, 1) := by decide +kernel
theorem dX4_addBehind_41 : decode cX4_addBehind 41 = .ok (.istore 4, 2) := by decide +kernel
theorem dX4_addBehind_43 : decode cX4_addBehind 43 = .ok (.iconst 0, 1) := by decide +kernel
theorem dX4_addBehind_44 : decode cX4_addBehind 44 = .ok (.istore 5, 2) := by decide +kernel
theorem dX4_addBehind_46 : decode cX4_addBehind 46 = .ok (.iload 5, 2) := by decide +kernel
theorem dX4_addBehind_48 : decode cX4_addBehind 48 = .ok (.aload_n 0, 1) := by decide +kernel
theorem dX4_addBehind_49 : decode cX4_addBehind 49 = .ok (.getfield 25, 3) := by decide +kernel
theorem dX4_addBehind_52 : decode cX4_addBehind 52 = .ok (.if_icmp .ge 62, 3) := by decide +kernel
theorem dX4_addBehind_55 : decode cX4_addBehind 55 = .ok (.iload 5, 2) := by decide +kernel
theorem dX4_addBehind_57 : decode cX4_addBehind 57 = .ok (.sipush 320, 3) := by decide +kernel
theorem dX4_addBehind_60 : decode cX4_addBehind 60 = .ok (.if_icmp .ge 54, 3) := by decide +kernel
theorem dX4_addBehind_63 : decode cX4_addBehind 63 = .ok (.aload_n 0, 1) := by decide +kernel
theorem dX4_addBehind_64 : decode cX4_addBehind 64 = .ok (.aload_n 0, 1) := by decide +kernel
theorem dX4_addBehind_65 : decode cX4_addBehind 65 = .ok (.getfield 9, 3) := by decide +kernel
theorem dX4_addBehind_68 : decode cX4_addBehind 68 = .ok (.iload 5, 2) := by decide +kernel
theorem dX4_addBehind_70 : decode cX4_addBehind 70 = .ok (.iaload, 1) := by decide +kernel
theorem dX4_addBehind_71 : decode cX4_addBehind 71 = .ok (.invokevirtual 39, 3) := by decide +kernel
theorem dX4_addBehind_74 : decode cX4_addBehind 74 = .ok (.ifCond .eq 20, 3) := by decide +kernel
theorem dX4_addBehind_77 : decode cX4_addBehind 77 = .ok (.aload_n 0, 1) := by decide +kernel
theorem dX4_addBehind_78 : decode cX4_addBehind 78 = .ok (.getfield 9, 3) := by decide +kernel
theorem dX4_addBehind_81 : decode cX4_addBehind 81 = .ok (.iload 5, 2) := by decide +kernel
theorem dX4_addBehind_83 : decode cX4_addBehind 83 = .ok (.iaload, 1) := by decide +kernel
theorem dX4_addBehind_84 : decode cX4_addBehind 84 = .ok (.iload_n 3, 1) := by decide +kernel
theorem dX4_addBehind_85 : decode cX4_addBehind 85 = .ok (.if_icmp .ge 9, 3) := by decide +kernel
theorem dX4_addBehind_88 : decode cX4_addBehind 88 = .ok (.iload 5, 2) := by decide +kernel
theorem dX4_addBehind_90 : decode cX4_addBehind 90 = .ok (.iconst 1, 1) := by decide +kernel
theorem dX4_addBehind_91 : decode cX4_addBehind 91 = .ok (.iadd, 1) := by decide +kernel
theorem dX4_addBehind_92 : decode cX4_addBehind 92 = .ok (.istore 4, 2) := by decide +kernel
theorem dX4_addBehind_94 : decode cX4_addBehind 94 = .ok (.aload_n 0, 1) := by decide +kernel
theorem dX4_addBehind_95 : decode cX4_addBehind 95 = .ok (.getfield 9, 3) := by decide +kernel
theorem dX4_addBehind_98 : decode cX4_addBehind 98 = .ok (.iload 5, 2) := by decide +kernel
theorem dX4_addBehind_100 : decode cX4_addBehind 100 = .ok (.iaload, 1) := by decide +kernel
theorem dX4_addBehind_101 : decode cX4_addBehind 101 = .ok (.iload_n 1, 1) := by decide +kernel
theorem dX4_addBehind_102 : decode cX4_addBehind 102 = .ok (.if_icmp .ne 6, 3) := by decide +kernel
theorem dX4_addBehind_105 : decode cX4_addBehind 105 = .ok (.goto 9, 3) := by decide +kernel
theorem dX4_addBehind_108 : decode cX4_addBehind 108 = .ok (.iinc 5 1, 3) := by decide +kernel
theorem dX4_addBehind_111 : decode cX4_addBehind 111 = .ok (.goto (-65), 3) := by decide +kernel
theorem dX4_addBehind_114 : decode cX4_addBehind 114 = .ok (.aload_n 0, 1) := by decide +kernel
theorem dX4_addBehind_115 : decode cX4_addBehind 115 = .ok (.iload 4, 2) := by decide +kernel
theorem dX4_addBehind_117 : decode cX4_addBehind 117 = .ok (.iload_n 2, 1) := by decide +kernel
theorem dX4_addBehind_118 : decode cX4_addBehind 118 = .ok (.invokevirtual 35, 3) := by decide +kernel
theorem dX4_addBehind_121 : decode cX4_addBehind 121 = .ok (.return_, 1) := by decide +kernel
theorem dX4_insert_0 : decode cX4_insert 0 = .ok (.aload_n 0, 1) := by decide +kernel
theorem dX4_insert_1 : decode cX4_insert 1 = .ok (.getfield 25, 3) := by decide +kernel
theorem dX4_insert_4 : decode cX4_insert 4 = .ok (.ifCond .lt 25, 3) := by decide +kernel
theorem dX4_insert_7 : decode cX4_insert 7 = .ok (.aload_n 0, 1) := by decide +kernel
theorem dX4_insert_8 : decode cX4_insert 8 = .ok (.getfield 25, 3) := by decide +kernel
theorem dX4_insert_11 : decode cX4_insert 11 = .ok (.sipush 320, 3) := by decide +kernel
theorem dX4_insert_14 : decode cX4_insert 14 = .ok (.if_icmp .ge 15, 3) := by decide +kernel
theorem dX4_insert_17 : decode cX4_insert 17 = .ok (.iload_n 1, 1) := by decide +kernel
theorem dX4_insert_18 : decode cX4_insert 18 = .ok (.ifCond .lt 11, 3) := by decide +kernel
theorem dX4_insert_21 : decode cX4_insert 21 = .ok (.iload_n 1, 1) := by decide +kernel
theorem dX4_insert_22 : decode cX4_insert 22 = .ok (.aload_n 0, 1) := by decide +kernel
end
section
theorem dX4_insert_23 : decode cX4_insert 23 = .ok (.getfield 25, 3) := by decide +kernel
theorem dX4_insert_26 : decode cX4_insert 26 = .ok (.if_icmp .le 4, 3) := by decide +kernel
theorem dX4_insert_29 : decode cX4_insert 29 = .ok (.return_, 1) := by decide +kernel
theorem dX4_insert_30 : decode cX4_insert 30 = .ok (.aload_n 0, 1) := by decide +kernel
theorem dX4_insert_31 : decode cX4_insert 31 = .ok (.getfield 25, 3) := by decide +kernel
theorem dX4_insert_34 : decode cX4_insert 34 = .ok (.istore_n 3, 1) := by decide +kernel
theorem dX4_insert_35 : decode cX4_insert 35 = .ok (.iload_n 3, 1) := by decide +kernel
theorem dX4_insert_36 : decode cX4_insert 36 = .ok (.iload_n 1, 1) := by decide +kernel
theorem dX4_insert_37 : decode cX4_insert 37 = .ok (.if_icmp .le 23, 3) := by decide +kernel
theorem dX4_insert_40 : decode cX4_insert 40 = .ok (.aload_n 0, 1) := by decide +kernel
theorem dX4_insert_41 : decode cX4_insert 41 = .ok (.getfield 9, 3) := by decide +kernel
theorem dX4_insert_44 : decode cX4_insert 44 = .ok (.iload_n 3, 1) := by decide +kernel
theorem dX4_insert_45 : decode cX4_insert 45 = .ok (.aload_n 0, 1) := by decide +kernel
theorem dX4_insert_46 : decode cX4_insert 46 = .ok (.getfield 9, 3) := by decide +kernel
theorem dX4_insert_49 : decode cX4_insert 49 = .ok (.iload_n 3, 1) := by decide +kernel
theorem dX4_insert_50 : decode cX4_insert 50 = .ok (.iconst 1, 1) := by decide +kernel
theorem dX4_insert_51 : decode cX4_insert 51 = .ok (.isub, 1) := by decide +kernel
theorem dX4_insert_52 : decode cX4_insert 52 = .ok (.iaload, 1) := by decide +kernel
theorem dX4_insert_53 : decode cX4_insert 53 = .ok (.iastore, 1) := by decide +kernel
theorem dX4_insert_54 : decode cX4_insert 54 = .ok (.iinc 3 (-1), 3) := by decide +kernel
theorem dX4_insert_57 : decode cX4_insert 57 = .ok (.goto (-22), 3) := by decide +kernel
theorem dX4_insert_60 : decode cX4_insert 60 = .ok (.aload_n 0, 1) := by decide +kernel
theorem dX4_insert_61 : decode cX4_insert 61 = .ok (.getfield 9, 3) := by decide +kernel
theorem dX4_insert_64 : decode cX4_insert 64 = .ok (.iload_n 1, 1) := by decide +kernel
theorem dX4_insert_65 : decode cX4_insert 65 = .ok (.aload_n 0, 1) := by decide +kernel
theorem dX4_insert_66 : decode cX4_insert 66 = .ok (.getfield 25, 3) := by decide +kernel
theorem dX4_insert_69 : decode cX4_insert 69 = .ok (.iastore, 1) := by decide +kernel
theorem dX4_insert_70 : decode cX4_insert 70 = .ok (.aload_n 0, 1) := by decide +kernel
theorem dX4_insert_71 : decode cX4_insert 71 = .ok (.getfield 15, 3) := by decide +kernel
theorem dX4_insert_74 : decode cX4_insert 74 = .ok (.aload_n 0, 1) := by decide +kernel
theorem dX4_insert_75 : decode cX4_insert 75 = .ok (.getfield 25, 3) := by decide +kernel
theorem dX4_insert_78 : decode cX4_insert 78 = .ok (.iload_n 2, 1) := by decide +kernel
theorem dX4_insert_79 : decode cX4_insert 79 = .ok (.iastore, 1) := by decide +kernel
theorem dX4_insert_80 : decode cX4_insert 80 = .ok (.aload_n 0, 1) := by decide +kernel
theorem dX4_insert_81 : decode cX4_insert 81 = .ok (.getfield 18, 3) := by decide +kernel
theorem dX4_insert_84 : decode cX4_insert 84 = .ok (.aload_n 0, 1) := by decide +kernel
theorem dX4_insert_85 : decode cX4_insert 85 = .ok (.getfield 25, 3) := by decide +kernel
theorem dX4_insert_88 : decode cX4_insert 88 = .ok (.iconst 0, 1) := by decide +kernel
theorem dX4_insert_89 : decode cX4_insert 89 = .ok (.iastore, 1) := by decide +kernel
theorem dX4_insert_90 : decode cX4_insert 90 = .ok (.aload_n 0, 1) := by decide +kernel
theorem dX4_insert_91 : decode cX4_insert 91 = .ok (.dup, 1) := by decide +kernel
theorem dX4_insert_92 : decode cX4_insert 92 = .ok (.getfield 25, 3) := by decide +kernel
theorem dX4_insert_95 : decode cX4_insert 95 = .ok (.iconst 1, 1) := by decide +kernel
theorem dX4_insert_96 : decode cX4_insert 96 = .ok (.iadd, 1) := by decide +kernel
theorem dX4_insert_97 : decode cX4_insert 97 = .ok (.putfield 25, 3) := by decide +kernel
theorem dX4_insert_100 : decode cX4_insert 100 = .ok (.aload_n 0, 1) := by decide +kernel
theorem dX4_insert_101 : decode cX4_insert 101 = .ok (.dup, 1) := by decide +kernel
theorem dX4_insert_102 : decode cX4_insert 102 = .ok (.getfield 29, 3) := by decide +kernel
theorem dX4_insert_105 : decode cX4_insert 105 = .ok (.iconst 1, 1) := by decide +kernel
theorem dX4_insert_106 : decode cX4_insert 106 = .ok (.iadd, 1) := by decide +kernel
theorem dX4_insert_107 : decode cX4_insert 107 = .ok (.putfield 29, 3) := by decide +kernel
theorem dX4_insert_110 : decode cX4_insert 110 = .ok (.return_, 1) := by decide +kernel
theorem dX5_init_0 : decode cX5_init 0 = .ok (.aload_n 0, 1) := by decide +kernel
theorem dX5_init_1 : decode cX5_init 1 = .ok (.invokespecial 3, 3) := by decide +kernel
theorem dX5_init_4 : decode cX5_init 4 = .ok (.aload_n 0, 1) := by decide +kernel
theorem dX5_init_5 : decode cX5_init 5 = .ok (.aload_n 1, 1) := by decide +kernel
theorem dX5_init_6 : decode cX5_init 6 = .ok (.putfield 9, 3) := by decide +kernel
theorem dX5_init_9 : decode cX5_init 9 = .ok (.aload_n 0, 1) := by decide +kernel
theorem dX5_init_10 : decode cX5_init 10 = .ok (.aload_n 2, 1) := by decide +kernel
theorem dX5_init_11 : decode cX5_init 11 = .ok (.putfield 15, 3) := by decide +kernel
theorem dX5_init_14 : decode cX5_init 14 = .ok (.return_, 1) := by decide +kernel
theorem dX5_readTape_0 : decode cX5_readTape 0 = .ok (.aload_n 0, 1) := by decide +kernel
theorem dX5_readTape_1 : decode cX5_readTape 1 = .ok (.iconst 0, 1) := by decide +kernel
theorem dX5_readTape_2 : decode cX5_readTape 2 = .ok (.putfield 19, 3) := by decide +kernel
theorem dX5_readTape_5 : decode cX5_readTape 5 = .ok (.aload_n 0, 1) := by decide +kernel
theorem dX5_readTape_6 : decode cX5_readTape 6 = .ok (.iconst 0, 1) := by decide +kernel
theorem dX5_readTape_7 : decode cX5_readTape 7 = .ok (.putfield 23, 3) := by decide +kernel
theorem dX5_readTape_10 : decode cX5_readTape 10 = .ok (.aload_n 0, 1) := by decide +kernel
theorem dX5_readTape_11 : decode cX5_readTape 11 = .ok (.iconst 0, 1) := by decide +kernel
theorem dX5_readTape_12 : decode cX5_readTape 12 = .ok (.putfield 26, 3) := by decide +kernel
theorem dX5_readTape_15 : decode cX5_readTape 15 = .ok (.aload_n 0, 1) := by decide +kernel
theorem dX5_readTape_16 : decode cX5_readTape 16 = .ok (.getfield 15, 3) := by decide +kernel
theorem dX5_readTape_19 : decode cX5_readTape 19 = .ok (.invokevirtual 29, 3) := by decide +kernel
theorem dX5_readTape_22 : decode cX5_readTape 22 = .ok (.aload_n 0, 1) := by decide +kernel
theorem dX5_readTape_23 : decode cX5_readTape 23 = .ok (.invokevirtual 34, 3) := by decide +kernel
theorem dX5_readTape_26 : decode cX5_readTape 26 = .ok (.iconst 0, 1) := by decide +kernel
theorem dX5_readTape_27 : decode cX5_readTape 27 = .ok (.istore_n 1, 1) := by decide +kernel
theorem dX5_readTape_28 : decode cX5_readTape 28 = .ok (.iload_n 1, 1) := by decide +kernel
theorem dX5_readTape_29 : decode cX5_readTape 29 = .ok (.sipush 600, 3) := by decide +kernel
theorem dX5_readTape_32 : decode cX5_readTape 32 = .ok (.if_icmp .ge 42, 3) := by decide +kernel
theorem dX5_readTape_35 : decode cX5_readTape 35 = .ok (.aload_n 0, 1) := by decide +kernel
theorem dX5_readTape_36 : decode cX5_readTape 36 = .ok (.getfield 23, 3) := by decide +kernel
theorem dX5_readTape_39 : decode cX5_readTape 39 = .ok (.ifCond .ne 35, 3) := by decide +kernel
theorem dX5_readTape_42 : decode cX5_readTape 42 = .ok (.aload_n 0, 1) := by decide +kernel
theorem dX5_readTape_43 : decode cX5_readTape 43 = .ok (.getfield 19, 3) := by decide +kernel
theorem dX5_readTape_46 : decode cX5_readTape 46 = .ok (.aload_n 0, 1) := by decide +kernel
theorem dX5_readTape_47 : decode cX5_readTape 47 = .ok (.getfield 9, 3) := by decide +kernel
theorem dX5_readTape_50 : decode cX5_readTape 50 = .ok (.getfield 37, 3) := by decide +kernel
theorem dX5_readTape_53 : decode cX5_readTape 53 = .ok (.if_icmp .ge 21, 3) := by decide +kernel
theorem dX5_readTape_56 : decode cX5_readTape 56 = .ok (.aload_n 0, 1) := by decide +kernel
theorem dX5_readTape_57 : decode cX5_readTape 57 = .ok (.invokevirtual 42, 3) := by decide +kernel
theorem dX5_readTape_60 : decode cX5_readTape 60 = .ok (.aload_n 0, 1) := by decide +kernel
theorem dX5_readTape_61 : decode cX5_readTape 61 = .ok (.invokevirtual 45, 3) := by decide +kernel
theorem dX5_readTape_64 : decode cX5_readTape 64 = .ok (.aload_n 0, 1) := by decide +kernel
theorem dX5_readTape_65 : decode cX5_readTape 65 = .ok (.invokevirtual 34, 3) := by decide +kernel
theorem dX5_readTape_68 : decode cX5_readTape 68 = .ok (.iinc 1 1, 3) := by decide +kernel
theorem dX5_readTape_71 : decode cX5_readTape 71 = .ok (.goto (-43), 3) := by decide +kernel
theorem dX5_readTape_74 : decode cX5_readTape 74 = .ok (.aload_n 0, 1) := by decide +kernel
theorem dX5_readTape_75 : decode cX5_readTape 75 = .ok (.getfield 23, 3) := by decide +kernel
theorem dX5_readTape_78 : decode cX5_readTape 78 = .ok (.ireturn, 1) := by decide +kernel
theorem dX5_readClause_0 : decode cX5_readClause 0 = .ok (.aload_n 0, 1) := by decide +kernel
theorem dX5_readClause_1 : decode cX5_readClause 1 = .ok (.getfield 19, 3) := by decide +kernel
theorem dX5_readClause_4 : decode cX5_readClause 4 = .ok (.istore_n 1, 1) := by decide +kernel
theorem dX5_readClause_5 : decode cX5_readClause 5 = .ok (.aload_n 0, 1) := by decide +kernel
theorem dX5_readClause_6 : decode cX5_readClause 6 = .ok (.ldc 48, 2) := by decide +kernel
theorem dX5_readClause_8 : decode cX5_readClause 8 = .ok (.invokevirtual 50, 3) := by decide +kernel
theorem dX5_readClause_11 : decode cX5_readClause 11 = .ok (.ifCond .eq 10, 3) := by decide +kernel
theorem dX5_readClause_14 : decode cX5_readClause 14 = .ok (.aload_n 0, 1) := by decide +kernel
theorem dX5_readClause_15 : decode cX5_readClause 15 = .ok (.invokevirtual 54, 3) := by decide +kernel
theorem dX5_readClause_18 : decode cX5_readClause 18 = .ok (.goto 141, 3) := by decide +kernel
theorem dX5_readClause_21 : decode cX5_readClause 21 = .ok (.aload_n 0, 1) := by decide +kernel
theorem dX5_readClause_22 : decode cX5_readClause 22 = .ok (.ldc 57, 2) := by decide +kernel
theorem dX5_readClause_24 : decode cX5_readClause 24 = .ok (.invokevirtual 50, 3) := by decide +kernel
theorem dX5_readClause_27 : decode cX5_readClause 27 = .ok (.ifCond .eq 27, 3) := by decide +kernel
theorem dX5_readClause_30 : decode cX5_readClause 30 = .ok (.aload_n 0, 1) := by decide +kernel
theorem dX5_readClause_31 : decode cX5_readClause 31 = .ok (.iconst 1, 1) := by decide +kernel
theorem dX5_readClause_32 : decode cX5_readClause 32 = .ok (.iload_n 1, 1) := by decide +kernel
theorem dX5_readClause_33 : decode cX5_readClause 33 = .ok (.invokevirtual 59, 3) := by decide +kernel
theorem dX5_readClause_36 : decode cX5_readClause 36 = .ok (.aload_n 0, 1) := by decide +kernel
theorem dX5_readClause_37 : decode cX5_readClause 37 = .ok (.getfield 15, 3) := by decide +kernel
theorem dX5_readClause_40 : decode cX5_readClause 40 = .ok (.aload_n 0, 1) := by decide +kernel
theorem dX5_readClause_41 : decode cX5_readClause 41 = .ok (.iconst 1, 1) := by decide +kernel
theorem dX5_readClause_42 : decode cX5_readClause 42 = .ok (.sipush 9999, 3) := by decide +kernel
theorem dX5_readClause_45 : decode cX5_readClause 45 = .ok (.invokevirtual 63, 3) := by decide +kernel
theorem dX5_readClause_48 : decode cX5_readClause 48 = .ok (.putfield 67, 3) := by decide +kernel
theorem dX5_readClause_51 : decode cX5_readClause 51 = .ok (.goto 108, 3) := by decide +kernel
theorem dX5_readClause_54 : decode cX5_readClause 54 = .ok (.aload_n 0, 1) := by decide +kernel
theorem dX5_readClause_55 : decode cX5_readClause 55 = .ok (.ldc 69, 2) := by decide +kernel
theorem dX5_readClause_57 : decode cX5_readClause 57 = .ok (.invokevirtual 50, 3) := by decide +kernel
theorem dX5_readClause_60 : decode cX5_readClause 60 = .ok (.ifCond .eq 26, 3) := by decide +kernel
theorem dX5_readClause_63 : decode cX5_readClause 63 = .ok (.aload_n 0, 1) := by decide +kernel
theorem dX5_readClause_64 : decode cX5_readClause 64 = .ok (.iconst 2, 1) := by decide +kernel
theorem dX5_readClause_65 : decode cX5_readClause 65 = .ok (.iload_n 1, 1) := by decide +kernel
theorem dX5_readClause_66 : decode cX5_readClause 66 = .ok (.invokevirtual 59, 3) := by decide +kernel
theorem dX5_readClause_69 : decode cX5_readClause 69 = .ok (.aload_n 0, 1) := by decide +kernel
theorem dX5_readClause_70 : decode cX5_readClause 70 = .ok (.getfield 15, 3) := by decide +kernel
theorem dX5_readClause_73 : decode cX5_readClause 73 = .ok (.aload_n 0, 1) := by decide +kernel
theorem dX5_readClause_74 : decode cX5_readClause 74 = .ok (.iconst 0, 1) := by decide +kernel
theorem dX5_readClause_75 : decode cX5_readClause 75 = .ok (.bipush 24, 2) := by decide +kernel
theorem dX5_readClause_77 : decode cX5_readClause 77 = .ok (.invokevirtual 63, 3) := by decide +kernel
theorem dX5_readClause_80 : decode cX5_readClause 80 = .ok (.putfield 71, 3) := by decide +kernel
theorem dX5_readClause_83 : decode cX5_readClause 83 = .ok (.goto 76, 3) := by decide +kernel
theorem dX5_readClause_86 : decode cX5_readClause 86 = .ok (.aload_n 0, 1) := by decide +kernel
theorem dX5_readClause_87 : decode cX5_readClause 87 = .ok (.ldc 73, 2) := by decide +kernel
theorem dX5_readClause_89 : decode cX5_readClause 89 = .ok (.invokevirtual 50, 3) := by decide +kernel
theorem dX5_readClause_92 : decode cX5_readClause 92 = .ok (.ifCond .eq 27, 3) := by decide +kernel
theorem dX5_readClause_95 : decode cX5_readClause 95 = .ok (.aload_n 0, 1) := by decide +kernel
theorem dX5_readClause_96 : decode cX5_readClause 96 = .ok (.iconst 4, 1) := by decide +kernel
theorem dX5_readClause_97 : decode cX5_readClause 97 = .ok (.iload_n 1, 1) := by decide +kernel
theorem dX5_readClause_98 : decode cX5_readClause 98 = .ok (.invokevirtual 59, 3) := by decide +kernel
theorem dX5_readClause_101 : decode cX5_readClause 101 = .ok (.aload_n 0, 1) := by decide +kernel
theorem dX5_readClause_102 : decode cX5_readClause 102 = .ok (.getfield 15, 3) := by decide +kernel
theorem dX5_readClause_105 : decode cX5_readClause 105 = .ok (.aload_n 0, 1) := by decide +kernel
theorem dX5_readClause_106 : decode cX5_readClause 106 = .ok (.ldc 75, 2) := by decide +kernel
theorem dX5_readClause_108 : decode cX5_readClause 108 = .ok (.ldc 77, 2) := by decide +kernel
theorem dX5_readClause_110 : decode cX5_readClause 110 = .ok (.invokevirtual 79, 3) := by decide +kernel
theorem dX5_readClause_113 : decode cX5_readClause 113 = .ok (.putfield 83, 3) := by decide +kernel
theorem dX5_readClause_116 : decode cX5_readClause 116 = .ok (.goto 43, 3) := by decide +kernel
theorem dX5_readClause_119 : decode cX5_readClause 119 = .ok (.aload_n 0, 1) := by decide +kernel
theorem dX5_readClause_120 : decode cX5_readClause 120 = .ok (.ldc 87, 2) := by decide +kernel
theorem dX5_readClause_122 : decode cX5_readClause 122 = .ok (.invokevirtual 50, 3) := by decide +kernel
theorem dX5_readClause_125 : decode cX5_readClause 125 = .ok (.ifCond .eq 28, 3) := by decide +kernel
theorem dX5_readClause_128 : decode cX5_readClause 128 = .ok (.aload_n 0, 1) := by decide +kernel
theorem dX5_readClause_129 : decode cX5_readClause 129 = .ok (.bipush 8, 2) := by decide +kernel
theorem dX5_readClause_131 : decode cX5_readClause 131 = .ok (.iload_n 1, 1) := by decide +kernel
theorem dX5_readClause_132 : decode cX5_readClause 132 = .ok (.invokevirtual 59, 3) := by decide +kernel
theorem dX5_readClause_135 : decode cX5_readClause 135 = .ok (.aload_n 0, 1) := by decide +kernel
theorem dX5_readClause_136 : decode cX5_readClause 136 = .ok (.getfield 15, 3) := by decide +kernel
theorem dX5_readClause_139 : decode cX5_readClause 139 = .ok (.aload_n 0, 1) := by decide +kernel
theorem dX5_readClause_140 : decode cX5_readClause 140 = .ok (.ldc 89, 2) := by decide +kernel
theorem dX5_readClause_142 : decode cX5_readClause 142 = .ok (.ldc 91, 2) := by decide +kernel
theorem dX5_readClause_144 : decode cX5_readClause 144 = .ok (.invokevirtual 79, 3) := by decide +kernel
theorem dX5_readClause_147 : decode cX5_readClause 147 = .ok (.putfield 93, 3) := by decide +kernel
theorem dX5_readClause_150 : decode cX5_readClause 150 = .ok (.goto 9, 3) := by decide +kernel
theorem dX5_readClause_153 : decode cX5_readClause 153 = .ok (.aload_n 0, 1) := by decide +kernel
theorem dX5_readClause_154 : decode cX5_readClause 154 = .ok (.iconst 1, 1) := by decide +kernel
theorem dX5_readClause_155 : decode cX5_readClause 155 = .ok (.iload_n 1, 1) := by decide +kernel
theorem dX5_readClause_156 : decode cX5_readClause 156 = .ok (.invokevirtual 96, 3) := by decide +kernel
theorem dX5_readClause_159 : decode cX5_readClause 159 = .ok (.return_, 1) := by decide +kernel
theorem dX5_readMotion_0 : decode cX5_readMotion 0 = .ok (.aload_n 0, 1) := by decide +kernel
theorem dX5_readMotion_1 : decode cX5_readMotion 1 = .ok (.invokevirtual 34, 3) := by decide +kernel
theorem dX5_readMotion_4 : decode cX5_readMotion 4 = .ok (.aload_n 0, 1) := by decide +kernel
theorem dX5_readMotion_5 : decode cX5_readMotion 5 = .ok (.getfield 19, 3) := by decide +kernel
theorem dX5_readMotion_8 : decode cX5_readMotion 8 = .ok (.istore_n 1, 1) := by decide +kernel
theorem dX5_readMotion_9 : decode cX5_readMotion 9 = .ok (.aload_n 0, 1) := by decide +kernel
theorem dX5_readMotion_10 : decode cX5_readMotion 10 = .ok (.invokevirtual 99, 3) := by decide +kernel
theorem dX5_readMotion_13 : decode cX5_readMotion 13 = .ok (.istore_n 2, 1) := by decide +kernel
theorem dX5_readMotion_14 : decode cX5_readMotion 14 = .ok (.iload_n 2, 1) := by decide +kernel
theorem dX5_readMotion_15 : decode cX5_readMotion 15 = .ok (.invokestatic 103, 3) := by decide +kernel
theorem dX5_readMotion_18 : decode cX5_readMotion 18 = .ok (.ifCond .ne 10, 3) := by decide +kernel
theorem dX5_readMotion_21 : decode cX5_readMotion 21 = .ok (.aload_n 0, 1) := by decide +kernel
theorem dX5_readMotion_22 : decode cX5_readMotion 22 = .ok (.iconst 1, 1) := by decide +kernel
theorem dX5_readMotion_23 : decode cX5_readMotion 23 = .ok (.iload_n 1, 1) := by decide +kernel
theorem dX5_readMotion_24 : decode cX5_readMotion 24 = .ok (.invokevirtual 96, 3) := by decide +kernel
theorem dX5_readMotion_27 : decode cX5_readMotion 27 = .ok (.return_, 1) := by decide +kernel
theorem dX5_readMotion_28 : decode cX5_readMotion 28 = .ok (.aload_n 0, 1) := by decide +kernel
theorem dX5_readMotion_29 : decode cX5_readMotion 29 = .ok (.getfield 15, 3) := by decide +kernel
theorem dX5_readMotion_32 : decode cX5_readMotion 32 = .ok (.iload_n 2, 1) := by decide +kernel
theorem dX5_readMotion_33 : decode cX5_readMotion 33 = .ok (.invokevirtual 107, 3) := by decide +kernel
theorem dX5_readMotion_36 : decode cX5_readMotion 36 = .ok (.ifCond .eq 10, 3) := by decide +kernel
theorem dX5_readMotion_39 : decode cX5_readMotion 39 = .ok (.aload_n 0, 1) := by decide +kernel
theorem dX5_readMotion_40 : decode cX5_readMotion 40 = .ok (.iconst 3, 1) := by decide +kernel
theorem dX5_readMotion_41 : decode cX5_readMotion 41 = .ok (.iload_n 1, 1) := by decide +kernel
theorem dX5_readMotion_42 : decode cX5_readMotion 42 = .ok (.invokevirtual 96, 3) := by decide +kernel
theorem dX5_readMotion_45 : decode cX5_readMotion 45 = .ok (.return_, 1) := by decide +kernel
theorem dX5_readMotion_46 : decode cX5_readMotion 46 = .ok (.aload_n 0, 1) := by decide +kernel
theorem dX5_readMotion_47 : decode cX5_readMotion 47 = .ok (.ldc 110, 2) := by decide +kernel
theorem dX5_readMotion_49 : decode cX5_readMotion 49 = .ok (.invokevirtual 112, 3) := by decide +kernel
theorem dX5_readMotion_52 : decode cX5_readMotion 52 = .ok (.aload_n 0, 1) := by decide +kernel
theorem dX5_readMotion_53 : decode cX5_readMotion 53 = .ok (.getfield 15, 3) := by decide +kernel
theorem dX5_readMotion_56 : decode cX5_readMotion 56 = .ok (.getfield 116, 3) := by decide +kernel
theorem dX5_readMotion_59 : decode cX5_readMotion 59 = .ok (.iload_n 2, 1) := by decide +kernel
theorem dX5_readMotion_60 : decode cX5_readMotion 60 = .ok (.aload_n 0, 1) := by decide +kernel
theorem dX5_readMotion_61 : decode cX5_readMotion 61 = .ok (.iconst 1, 1) := by decide +kernel
theorem dX5_readMotion_62 : decode cX5_readMotion 62 = .ok (.bipush 99, 2) := by decide +kernel
theorem dX5_readMotion_64 : decode cX5_readMotion 64 = .ok (.invokevirtual 63, 3) := by decide +kernel
theorem dX5_readMotion_67 : decode cX5_readMotion 67 = .ok (.iastore, 1) := by decide +kernel
theorem dX5_readMotion_68 : decode cX5_readMotion 68 = .ok (.aload_n 0, 1) := by decide +kernel
theorem dX5_readMotion_69 : decode cX5_readMotion 69 = .ok (.getfield 15, 3) := by decide +kernel
theorem dX5_readMotion_72 : decode cX5_readMotion 72 = .ok (.getfield 119, 3) := by decide +kernel
theorem dX5_readMotion_75 : decode cX5_readMotion 75 = .ok (.iload_n 2, 1) := by decide +kernel
theorem dX5_readMotion_76 : decode cX5_readMotion 76 = .ok (.aload_n 0, 1) := by decide +kernel
theorem dX5_readMotion_77 : decode cX5_readMotion 77 = .ok (.ldc 123, 2) := by decide +kernel
theorem dX5_readMotion_79 : decode cX5_readMotion 79 = .ok (.invokevirtual 50, 3) := by decide +kernel
theorem dX5_readMotion_82 : decode cX5_readMotion 82 = .ok (.bastore, 1) := by decide +kernel
theorem dX5_readMotion_83 : decode cX5_readMotion 83 = .ok (.aload_n 0, 1) := by decide +kernel
theorem dX5_readMotion_84 : decode cX5_readMotion 84 = .ok (.getfield 15, 3) := by decide +kernel
theorem dX5_readMotion_87 : decode cX5_readMotion 87 = .ok (.getfield 125, 3) := by decide +kernel
theorem dX5_readMotion_90 : decode cX5_readMotion 90 = .ok (.iload_n 2, 1) := by decide +kernel
theorem dX5_readMotion_91 : decode cX5_readMotion 91 = .ok (.aload_n 0, 1) := by decide +kernel
theorem dX5_readMotion_92 : decode cX5_readMotion 92 = .ok (.ldc 128, 2) := by decide +kernel
theorem dX5_readMotion_94 : decode cX5_readMotion 94 = .ok (.invokevirtual 50, 3) := by decide +kernel
theorem dX5_readMotion_97 : decode cX5_readMotion 97 = .ok (.bastore, 1) := by decide +kernel
theorem dX5_readMotion_98 : decode cX5_readMotion 98 = .ok (.aload_n 0, 1) := by decide +kernel
theorem dX5_readMotion_99 : decode cX5_readMotion 99 = .ok (.ldc 130, 2) := by decide +kernel
theorem dX5_readMotion_101 : decode cX5_readMotion 101 = .ok (.invokevirtual 112, 3) := by decide +kernel
theorem dX5_readMotion_104 : decode cX5_readMotion 104 = .ok (.aload_n 0, 1) := by decide +kernel
theorem dX5_readMotion_105 : decode cX5_readMotion 105 = .ok (.getfield 15, 3) := by decide +kernel
theorem dX5_readMotion_108 : decode cX5_readMotion 108 = .ok (.getfield 132, 3) := by decide +kernel
theorem dX5_readMotion_111 : decode cX5_readMotion 111 = .ok (.iload_n 2, 1) := by decide +kernel
theorem dX5_readMotion_112 : decode cX5_readMotion 112 = .ok (.aload_n 0, 1) := by decide +kernel
theorem dX5_readMotion_113 : decode cX5_readMotion 113 = .ok (.invokevirtual 135, 3) := by decide +kernel
theorem dX5_readMotion_116 : decode cX5_readMotion 116 = .ok (.iastore, 1) := by decide +kernel
theorem dX5_readMotion_117 : decode cX5_readMotion 117 = .ok (.return_, 1) := by decide +kernel
theorem dX5_readKind_0 : decode cX5_readKind 0 = .ok (.iconst 0, 1) := by decide +kernel
theorem dX5_readKind_1 : decode cX5_readKind 1 = .ok (.istore_n 1, 1) := by decide +kernel
theorem dX5_readKind_2 : decode cX5_readKind 2 = .ok (.iload_n 1, 1) := by decide +kernel
theorem dX5_readKind_3 : decode cX5_readKind 3 = .ok (.bipush 8, 2) := by decide +kernel
theorem dX5_readKind_5 : decode cX5_readKind 5 = .ok (.if_icmp .ge 22, 3) := by decide +kernel
theorem dX5_readKind_8 : decode cX5_readKind 8 = .ok (.aload_n 0, 1) := by decide +kernel
theorem dX5_readKind_9 : decode cX5_readKind 9 = .ok (.iload_n 1, 1) := by decide +kernel
theorem dX5_readKind_10 : decode cX5_readKind 10 = .ok (.invokestatic 138, 3) := by decide +kernel
theorem dX5_readKind_13 : decode cX5_readKind 13 = .ok (.invokevirtual 50, 3) := by decide +kernel
theorem dX5_readKind_16 : decode cX5_readKind 16 = .ok (.ifCond .eq 5, 3) := by decide +kernel
theorem dX5_readKind_19 : decode cX5_readKind 19 = .ok (.iload_n 1, 1) := by decide +kernel
theorem dX5_readKind_20 : decode cX5_readKind 20 = .ok (.ireturn, 1) := by decide +kernel
theorem dX5_readKind_21 : decode cX5_readKind 21 = .ok (.iinc 1 1, 3) := by decide +kernel
theorem dX5_readKind_24 : decode cX5_readKind 24 = .ok (.goto (-22), 3) := by decide +kernel
theorem dX5_readKind_27 : decode cX5_readKind 27 = .ok (.iconst (-1), 1) := by decide +kernel
theorem dX5_readKind_28 : decode cX5_readKind 28 = .ok (.ireturn, 1) := by decide +kernel
theorem dX5_readWay_0 : decode cX5_readWay 0 = .ok (.iconst 0, 1) := by decide +kernel
theorem dX5_readWay_1 : decode cX5_readWay 1 = .ok (.istore_n 1, 1) := by decide +kernel
theorem dX5_readWay_2 : decode cX5_readWay 2 = .ok (.iload_n 1, 1) := by decide +kernel
theorem dX5_readWay_3 : decode cX5_readWay 3 = .ok (.iconst 4, 1) := by decide +kernel
theorem dX5_readWay_4 : decode cX5_readWay 4 = .ok (.if_icmp .ge 22, 3) := by decide +kernel
theorem dX5_readWay_7 : decode cX5_readWay 7 = .ok (.aload_n 0, 1) := by decide +kernel
theorem dX5_readWay_8 : decode cX5_readWay 8 = .ok (.iload_n 1, 1) := by decide +kernel
theorem dX5_readWay_9 : decode cX5_readWay 9 = .ok (.invokestatic 142, 3) := by decide +kernel
theorem dX5_readWay_12 : decode cX5_readWay 12 = .ok (.invokevirtual 50, 3) := by decide +kernel
theorem dX5_readWay_15 : decode cX5_readWay 15 = .ok (.ifCond .eq 5, 3) := by decide +kernel
theorem dX5_readWay_18 : decode cX5_readWay 18 = .ok (.iload_n 1, 1) := by decide +kernel
theorem dX5_readWay_19 : decode cX5_readWay 19 = .ok (.ireturn, 1) := by decide +kernel
theorem dX5_readWay_20 : decode cX5_readWay 20 = .ok (.iinc 1 1, 3) := by decide +kernel
theorem dX5_readWay_23 : decode cX5_readWay 23 = .ok (.goto (-21), 3) := by decide +kernel
theorem dX5_readWay_26 : decode cX5_readWay 26 = .ok (.aload_n 0, 1) := by decide +kernel
theorem dX5_readWay_27 : decode cX5_readWay 27 = .ok (.iconst 1, 1) := by decide +kernel
theorem dX5_readWay_28 : decode cX5_readWay 28 = .ok (.aload_n 0, 1) := by decide +kernel
theorem dX5_readWay_29 : decode cX5_readWay 29 = .ok (.getfield 19, 3) := by decide +kernel
theorem dX5_readWay_32 : decode cX5_readWay 32 = .ok (.invokevirtual 96, 3) := by decide +kernel
theorem dX5_readWay_35 : decode cX5_readWay 35 = .ok (.iconst (-1), 1) := by decide +kernel
theorem dX5_readWay_36 : decode cX5_readWay 36 = .ok (.ireturn, 1) := by decide +kernel
theorem dX5_readChoice_0 : decode cX5_readChoice 0 = .ok (.aload_n 0, 1) := by decide +kernel
theorem dX5_readChoice_1 : decode cX5_readChoice 1 = .ok (.aload_n 1, 1) := by decide +kernel
theorem dX5_readChoice_2 : decode cX5_readChoice 2 = .ok (.invokevirtual 50, 3) := by decide +kernel
theorem dX5_readChoice_5 : decode cX5_readChoice 5 = .ok (.ifCond .eq 5, 3) := by decide +kernel
theorem dX5_readChoice_8 : decode cX5_readChoice 8 = .ok (.iconst 1, 1) := by decide +kernel
theorem dX5_readChoice_9 : decode cX5_readChoice 9 = .ok (.ireturn, 1) := by decide +kernel
theorem dX5_readChoice_10 : decode cX5_readChoice 10 = .ok (.aload_n 0, 1) := by decide +kernel
theorem dX5_readChoice_11 : decode cX5_readChoice 11 = .ok (.aload_n 2, 1) := by decide +kernel
theorem dX5_readChoice_12 : decode cX5_readChoice 12 = .ok (.invokevirtual 112, 3) := by decide +kernel
theorem dX5_readChoice_15 : decode cX5_readChoice 15 = .ok (.iconst 0, 1) := by decide +kernel
theorem dX5_readChoice_16 : decode cX5_readChoice 16 = .ok (.ireturn, 1) := by decide +kernel
theorem dX5_readNumber_0 : decode cX5_readNumber 0 = .ok (.aload_n 0, 1) := by decide +kernel
theorem dX5_readNumber_1 : decode cX5_readNumber 1 = .ok (.invokevirtual 34, 3) := by decide +kernel
theorem dX5_readNumber_4 : decode cX5_readNumber 4 = .ok (.aload_n 0, 1) := by decide +kernel
theorem dX5_readNumber_5 : decode cX5_readNumber 5 = .ok (.getfield 19, 3) := by decide +kernel
theorem dX5_readNumber_8 : decode cX5_readNumber 8 = .ok (.istore_n 3, 1) := by decide +kernel
theorem dX5_readNumber_9 : decode cX5_readNumber 9 = .ok (.iconst 0, 1) := by decide +kernel
theorem dX5_readNumber_10 : decode cX5_readNumber 10 = .ok (.istore 4, 2) := by decide +kernel
theorem dX5_readNumber_12 : decode cX5_readNumber 12 = .ok (.aload_n 0, 1) := by decide +kernel
theorem dX5_readNumber_13 : decode cX5_readNumber 13 = .ok (.getfield 19, 3) := by decide +kernel
theorem dX5_readNumber_16 : decode cX5_readNumber 16 = .ok (.aload_n 0, 1) := by decide +kernel
theorem dX5_readNumber_17 : decode cX5_readNumber 17 = .ok (.getfield 9, 3) := by decide +kernel
theorem dX5_readNumber_20 : decode cX5_readNumber 20 = .ok (.getfield 37, 3) := by decide +kernel
theorem dX5_readNumber_23 : decode cX5_readNumber 23 = .ok (.if_icmp .ge 65, 3) := by decide +kernel
theorem dX5_readNumber_26 : decode cX5_readNumber 26 = .ok (.aload_n 0, 1) := by decide +kernel
theorem dX5_readNumber_27 : decode cX5_readNumber 27 = .ok (.getfield 9, 3) := by decide +kernel
theorem dX5_readNumber_30 : decode cX5_readNumber 30 = .ok (.aload_n 0, 1) := by decide +kernel
theorem dX5_readNumber_31 : decode cX5_readNumber 31 = .ok (.getfield 19, 3) := by decide +kernel
theorem dX5_readNumber_34 : decode cX5_readNumber 34 = .ok (.invokevirtual 145, 3) := by decide +kernel
theorem dX5_readNumber_37 : decode cX5_readNumber 37 = .ok (.invokestatic 149, 3) := by decide +kernel
theorem dX5_readNumber_40 : decode cX5_readNumber 40 = .ok (.ifCond .eq 48, 3) := by decide +kernel
theorem dX5_readNumber_43 : decode cX5_readNumber 43 = .ok (.aload_n 0, 1) := by decide +kernel
theorem dX5_readNumber_44 : decode cX5_readNumber 44 = .ok (.getfield 19, 3) := by decide +kernel
theorem dX5_readNumber_47 : decode cX5_readNumber 47 = .ok (.iload_n 3, 1) := by decide +kernel
theorem dX5_readNumber_48 : decode cX5_readNumber 48 = .ok (.isub, 1) := by decide +kernel
theorem dX5_readNumber_49 : decode cX5_readNumber 49 = .ok (.iconst 4, 1) := by decide +kernel
theorem dX5_readNumber_50 : decode cX5_readNumber 50 = .ok (.if_icmp .ge 25, 3) := by decide +kernel
theorem dX5_readNumber_53 : decode cX5_readNumber 53 = .ok (.iload 4, 2) := by decide +kernel
theorem dX5_readNumber_55 : decode cX5_readNumber 55 = .ok (.bipush 10, 2) := by decide +kernel
theorem dX5_readNumber_57 : decode cX5_readNumber 57 = .ok (.imul, 1) := by decide +kernel
theorem dX5_readNumber_58 : decode cX5_readNumber 58 = .ok (.aload_n 0, 1) := by decide +kernel
theorem dX5_readNumber_59 : decode cX5_readNumber 59 = .ok (.getfield 9, 3) := by decide +kernel
theorem dX5_readNumber_62 : decode cX5_readNumber 62 = .ok (.aload_n 0, 1) := by decide +kernel
theorem dX5_readNumber_63 : decode cX5_readNumber 63 = .ok (.getfield 19, 3) := by decide +kernel
theorem dX5_readNumber_66 : decode cX5_readNumber 66 = .ok (.invokevirtual 145, 3) := by decide +kernel
theorem dX5_readNumber_69 : decode cX5_readNumber 69 = .ok (.iadd, 1) := by decide +kernel
theorem dX5_readNumber_70 : decode cX5_readNumber 70 = .ok (.bipush 48, 2) := by decide +kernel
theorem dX5_readNumber_72 : decode cX5_readNumber 72 = .ok (.isub, 1) := by decide +kernel
theorem dX5_readNumber_73 : decode cX5_readNumber 73 = .ok (.istore 4, 2) := by decide +kernel
theorem dX5_readNumber_75 : decode cX5_readNumber 75 = .ok (.aload_n 0, 1) := by decide +kernel
theorem dX5_readNumber_76 : decode cX5_readNumber 76 = .ok (.dup, 1) := by decide +kernel
theorem dX5_readNumber_77 : decode cX5_readNumber 77 = .ok (.getfield 19, 3) := by decide +kernel
theorem dX5_readNumber_80 : decode cX5_readNumber 80 = .ok (.iconst 1, 1) := by decide +kernel
theorem dX5_readNumber_81 : decode cX5_readNumber 81 = .ok (.iadd, 1) := by decide +kernel
theorem dX5_readNumber_82 : decode cX5_readNumber 82 = .ok (.putfield 19, 3) := by decide +kernel
theorem dX5_readNumber_85 : decode cX5_readNumber 85 = .ok (.goto (-73), 3) := by decide +kernel
theorem dX5_readNumber_88 : decode cX5_readNumber 88 = .ok (.aload_n 0, 1) := by decide +kernel
theorem dX5_readNumber_89 : decode cX5_readNumber 89 = .ok (.getfield 19, 3) := by decide +kernel
theorem dX5_readNumber_92 : decode cX5_readNumber 92 = .ok (.iload_n 3, 1) := by decide +kernel
theorem dX5_readNumber_93 : decode cX5_readNumber 93 = .ok (.if_icmp .ne 12, 3) := by decide +kernel
theorem dX5_readNumber_96 : decode cX5_readNumber 96 = .ok (.aload_n 0, 1) := by decide +kernel
theorem dX5_readNumber_97 : decode cX5_readNumber 97 = .ok (.iconst 1, 1) := by decide +kernel
theorem dX5_readNumber_98 : decode cX5_readNumber 98 = .ok (.iload_n 3, 1) := by decide +kernel
theorem dX5_readNumber_99 : decode cX5_readNumber 99 = .ok (.invokevirtual 96, 3) := by decide +kernel
theorem dX5_readNumber_102 : decode cX5_readNumber 102 = .ok (.goto 31, 3) := by decide +kernel
theorem dX5_readNumber_105 : decode cX5_readNumber 105 = .ok (.aload_n 0, 1) := by decide +kernel
theorem dX5_readNumber_106 : decode cX5_readNumber 106 = .ok (.getfield 19, 3) := by decide +kernel
theorem dX5_readNumber_109 : decode cX5_readNumber 109 = .ok (.iload_n 3, 1) := by decide +kernel
theorem dX5_readNumber_110 : decode cX5_readNumber 110 = .ok (.isub, 1) := by decide +kernel
theorem dX5_readNumber_111 : decode cX5_readNumber 111 = .ok (.iconst 4, 1) := by decide +kernel
theorem dX5_readNumber_112 : decode cX5_readNumber 112 = .ok (.if_icmp .gt 15, 3) := by decide +kernel
theorem dX5_readNumber_115 : decode cX5_readNumber 115 = .ok (.iload 4, 2) := by decide +kernel
theorem dX5_readNumber_117 : decode cX5_readNumber 117 = .ok (.iload_n 1, 1) := by decide +kernel
theorem dX5_readNumber_118 : decode cX5_readNumber 118 = .ok (.if_icmp .lt 9, 3) := by decide +kernel
theorem dX5_readNumber_121 : decode cX5_readNumber 121 = .ok (.iload 4, 2) := by decide +kernel
theorem dX5_readNumber_123 : decode cX5_readNumber 123 = .ok (.iload_n 2, 1) := by decide +kernel
theorem dX5_readNumber_124 : decode cX5_readNumber 124 = .ok (.if_icmp .le 9, 3) := by decide +kernel
theorem dX5_readNumber_127 : decode cX5_readNumber 127 = .ok (.aload_n 0, 1) := by decide +kernel
theorem dX5_readNumber_128 : decode cX5_readNumber 128 = .ok (.iconst 2, 1) := by decide +kernel
theorem dX5_readNumber_129 : decode cX5_readNumber 129 = .ok (.iload_n 3, 1) := by decide +kernel
theorem dX5_readNumber_130 : decode cX5_readNumber 130 = .ok (.invokevirtual 96, 3) := by decide +kernel
theorem dX5_readNumber_133 : decode cX5_readNumber 133 = .ok (.iload 4, 2) := by decide +kernel
theorem dX5_readNumber_135 : decode cX5_readNumber 135 = .ok (.ireturn, 1) := by decide +kernel
theorem dX5_tellOnce_0 : decode cX5_tellOnce 0 = .ok (.aload_n 0, 1) := by decide +kernel
theorem dX5_tellOnce_1 : decode cX5_tellOnce 1 = .ok (.getfield 26, 3) := by decide +kernel
theorem dX5_tellOnce_4 : decode cX5_tellOnce 4 = .ok (.iload_n 1, 1) := by decide +kernel
theorem dX5_tellOnce_5 : decode cX5_tellOnce 5 = .ok (.iand, 1) := by decide +kernel
theorem dX5_tellOnce_6 : decode cX5_tellOnce 6 = .ok (.ifCond .eq 9, 3) := by decide +kernel
theorem dX5_tellOnce_9 : decode cX5_tellOnce 9 = .ok (.aload_n 0, 1) := by decide +kernel
theorem dX5_tellOnce_10 : decode cX5_tellOnce 10 = .ok (.iconst 3, 1) := by decide +kernel
theorem dX5_tellOnce_11 : decode cX5_tellOnce 11 = .ok (.iload_n 2, 1) := by decide +kernel
theorem dX5_tellOnce_12 : decode cX5_tellOnce 12 = .ok (.invokevirtual 96, 3) := by decide +kernel
theorem dX5_tellOnce_15 : decode cX5_tellOnce 15 = .ok (.aload_n 0, 1) := by decide +kernel
theorem dX5_tellOnce_16 : decode cX5_tellOnce 16 = .ok (.dup, 1) := by decide +kernel
theorem dX5_tellOnce_17 : decode cX5_tellOnce 17 = .ok (.getfield 26, 3) := by decide +kernel
theorem dX5_tellOnce_20 : decode cX5_tellOnce 20 = .ok (.iload_n 1, 1) := by decide +kernel
theorem dX5_tellOnce_21 : decode cX5_tellOnce 21 = .ok (.ior, 1) := by decide +kernel
theorem dX5_tellOnce_22 : decode cX5_tellOnce 22 = .ok (.putfield 26, 3) := by decide +kernel
theorem dX5_tellOnce_25 : decode cX5_tellOnce 25 = .ok (.return_, 1) := by decide +kernel
theorem dX5_expectWord_0 : decode cX5_expectWord 0 = .ok (.aload_n 0, 1) := by decide +kernel
theorem dX5_expectWord_1 : decode cX5_expectWord 1 = .ok (.aload_n 1, 1) := by decide +kernel
theorem dX5_expectWord_2 : decode cX5_expectWord 2 = .ok (.invokevirtual 50, 3) := by decide +kernel
theorem dX5_expectWord_5 : decode cX5_expectWord 5 = .ok (.ifCond .ne 12, 3) := by decide +kernel
theorem dX5_expectWord_8 : decode cX5_expectWord 8 = .ok (.aload_n 0, 1) := by decide +kernel
theorem dX5_expectWord_9 : decode cX5_expectWord 9 = .ok (.iconst 1, 1) := by decide +kernel
theorem dX5_expectWord_10 : decode cX5_expectWord 10 = .ok (.aload_n 0, 1) := by decide +kernel
theorem dX5_expectWord_11 : decode cX5_expectWord 11 = .ok (.getfield 19, 3) := by decide +kernel
theorem dX5_expectWord_14 : decode cX5_expectWord 14 = .ok (.invokevirtual 96, 3) := by decide +kernel
theorem dX5_expectWord_17 : decode cX5_expectWord 17 = .ok (.return_, 1) := by decide +kernel
theorem dX5_expectSemicolon_0 : decode cX5_expectSemicolon 0 = .ok (.aload_n 0, 1) := by decide +kernel
theorem dX5_expectSemicolon_1 : decode cX5_expectSemicolon 1 = .ok (.invokevirtual 34, 3) := by decide +kernel
theorem dX5_expectSemicolon_4 : decode cX5_expectSemicolon 4 = .ok (.aload_n 0, 1) := by decide +kernel
theorem dX5_expectSemicolon_5 : decode cX5_expectSemicolon 5 = .ok (.getfield 9, 3) := by decide +kernel
theorem dX5_expectSemicolon_8 : decode cX5_expectSemicolon 8 = .ok (.aload_n 0, 1) := by decide +kernel
theorem dX5_expectSemicolon_9 : decode cX5_expectSemicolon 9 = .ok (.getfield 19, 3) := by decide +kernel
theorem dX5_expectSemicolon_12 : decode cX5_expectSemicolon 12 = .ok (.invokevirtual 145, 3) := by decide +kernel
theorem dX5_expectSemicolon_15 : decode cX5_expectSemicolon 15 = .ok (.bipush 59, 2) := by decide +kernel
theorem dX5_expectSemicolon_17 : decode cX5_expectSemicolon 17 = .ok (.if_icmp .ne 16, 3) := by decide +kernel
theorem dX5_expectSemicolon_20 : decode cX5_expectSemicolon 20 = .ok (.aload_n 0, 1) := by decide +kernel
theorem dX5_expectSemicolon_21 : decode cX5_expectSemicolon 21 = .ok (.dup, 1) := by decide +kernel
theorem dX5_expectSemicolon_22 : decode cX5_expectSemicolon 22 = .ok (.getfield 19, 3) := by decide +kernel
theorem dX5_expectSemicolon_25 : decode cX5_expectSemicolon 25 = .ok (.iconst 1, 1) := by decide +kernel
theorem dX5_expectSemicolon_26 : decode cX5_expectSemicolon 26 = .ok (.iadd, 1) := by decide +kernel
theorem dX5_expectSemicolon_27 : decode cX5_expectSemicolon 27 = .ok (.putfield 19, 3) := by decide +kernel
theorem dX5_expectSemicolon_30 : decode cX5_expectSemicolon 30 = .ok (.goto 12, 3) := by decide +kernel
theorem dX5_expectSemicolon_33 : decode cX5_expectSemicolon 33 = .ok (.aload_n 0, 1) := by decide +kernel
theorem dX5_expectSemicolon_34 : decode cX5_expectSemicolon 34 = .ok (.iconst 1, 1) := by decide +kernel
theorem dX5_expectSemicolon_35 : decode cX5_expectSemicolon 35 = .ok (.aload_n 0, 1) := by decide +kernel
theorem dX5_expectSemicolon_36 : decode cX5_expectSemicolon 36 = .ok (.getfield 19, 3) := by decide +kernel
theorem dX5_expectSemicolon_39 : decode cX5_expectSemicolon 39 = .ok (.invokevirtual 96, 3) := by decide +kernel
theorem dX5_expectSemicolon_42 : decode cX5_expectSemicolon 42 = .ok (.return_, 1) := by decide +kernel
theorem dX5_tookWord_0 : decode cX5_tookWord 0 = .ok (.aload_n 0, 1) := by decide +kernel
theorem dX5_tookWord_1 : decode cX5_tookWord 1 = .ok (.invokevirtual 34, 3) := by decide +kernel
theorem dX5_tookWord_4 : decode cX5_tookWord 4 = .ok (.aload_n 1, 1) := by decide +kernel
theorem dX5_tookWord_5 : decode cX5_tookWord 5 = .ok (.invokevirtual 152, 3) := by decide +kernel
theorem dX5_tookWord_8 : decode cX5_tookWord 8 = .ok (.istore_n 2, 1) := by decide +kernel
theorem dX5_tookWord_9 : decode cX5_tookWord 9 = .ok (.iconst 0, 1) := by decide +kernel
theorem dX5_tookWord_10 : decode cX5_tookWord 10 = .ok (.istore_n 3, 1) := by decide +kernel
theorem dX5_tookWord_11 : decode cX5_tookWord 11 = .ok (.iload_n 3, 1) := by decide +kernel
theorem dX5_tookWord_12 : decode cX5_tookWord 12 = .ok (.iload_n 2, 1) := by decide +kernel
theorem dX5_tookWord_13 : decode cX5_tookWord 13 = .ok (.if_icmp .ge 32, 3) := by decide +kernel
theorem dX5_tookWord_16 : decode cX5_tookWord 16 = .ok (.aload_n 0, 1) := by decide +kernel
theorem dX5_tookWord_17 : decode cX5_tookWord 17 = .ok (.getfield 9, 3) := by decide +kernel
theorem dX5_tookWord_20 : decode cX5_tookWord 20 = .ok (.aload_n 0, 1) := by decide +kernel
theorem dX5_tookWord_21 : decode cX5_tookWord 21 = .ok (.getfield 19, 3) := by decide +kernel
theorem dX5_tookWord_24 : decode cX5_tookWord 24 = .ok (.iload_n 3, 1) := by decide +kernel
theorem dX5_tookWord_25 : decode cX5_tookWord 25 = .ok (.iadd, 1) := by decide +kernel
theorem dX5_tookWord_26 : decode cX5_tookWord 26 = .ok (.invokevirtual 145, 3) := by decide +kernel
theorem dX5_tookWord_29 : decode cX5_tookWord 29 = .ok (.aload_n 1, 1) := by decide +kernel
theorem dX5_tookWord_30 : decode cX5_tookWord 30 = .ok (.iload_n 3, 1) := by decide +kernel
theorem dX5_tookWord_31 : decode cX5_tookWord 31 = .ok (.invokevirtual 156, 3) := by decide +kernel
theorem dX5_tookWord_34 : decode cX5_tookWord 34 = .ok (.if_icmp .eq 5, 3) := by decide +kernel
theorem dX5_tookWord_37 : decode cX5_tookWord 37 = .ok (.iconst 0, 1) := by decide +kernel
theorem dX5_tookWord_38 : decode cX5_tookWord 38 = .ok (.ireturn, 1) := by decide +kernel
theorem dX5_tookWord_39 : decode cX5_tookWord 39 = .ok (.iinc 3 1, 3) := by decide +kernel
theorem dX5_tookWord_42 : decode cX5_tookWord 42 = .ok (.goto (-31), 3) := by decide +kernel
theorem dX5_tookWord_45 : decode cX5_tookWord 45 = .ok (.aload_n 0, 1) := by decide +kernel
theorem dX5_tookWord_46 : decode cX5_tookWord 46 = .ok (.getfield 9, 3) := by decide +kernel
theorem dX5_tookWord_49 : decode cX5_tookWord 49 = .ok (.aload_n 0, 1) := by decide +kernel
theorem dX5_tookWord_50 : decode cX5_tookWord 50 = .ok (.getfield 19, 3) := by decide +kernel
theorem dX5_tookWord_53 : decode cX5_tookWord 53 = .ok (.iload_n 2, 1) := by decide +kernel
theorem dX5_tookWord_54 : decode cX5_tookWord 54 = .ok (.iadd, 1) := by decide +kernel
theorem dX5_tookWord_55 : decode cX5_tookWord 55 = .ok (.invokevirtual 145, 3) := by decide +kernel
theorem dX5_tookWord_58 : decode cX5_tookWord 58 = .ok (.invokestatic 160, 3) := by decide +kernel
theorem dX5_tookWord_61 : decode cX5_tookWord 61 = .ok (.ifCond .eq 5, 3) := by decide +kernel
theorem dX5_tookWord_64 : decode cX5_tookWord 64 = .ok (.iconst 0, 1) := by decide +kernel
theorem dX5_tookWord_65 : decode cX5_tookWord 65 = .ok (.ireturn, 1) := by decide +kernel
theorem dX5_tookWord_66 : decode cX5_tookWord 66 = .ok (.aload_n 0, 1) := by decide +kernel
theorem dX5_tookWord_67 : decode cX5_tookWord 67 = .ok (.dup, 1) := by decide +kernel
theorem dX5_tookWord_68 : decode cX5_tookWord 68 = .ok (.getfield 19, 3) := by decide +kernel
theorem dX5_tookWord_71 : decode cX5_tookWord 71 = .ok (.iload_n 2, 1) := by decide +kernel
theorem dX5_tookWord_72 : decode cX5_tookWord 72 = .ok (.iadd, 1) := by decide +kernel
theorem dX5_tookWord_73 : decode cX5_tookWord 73 = .ok (.putfield 19, 3) := by decide +kernel
theorem dX5_tookWord_76 : decode cX5_tookWord 76 = .ok (.iconst 1, 1) := by decide +kernel
theorem dX5_tookWord_77 : decode cX5_tookWord 77 = .ok (.ireturn, 1) := by decide +kernel
theorem dX5_skipBlanks_0 : decode cX5_skipBlanks 0 = .ok (.aload_n 0, 1) := by decide +kernel
theorem dX5_skipBlanks_1 : decode cX5_skipBlanks 1 = .ok (.getfield 19, 3) := by decide +kernel
theorem dX5_skipBlanks_4 : decode cX5_skipBlanks 4 = .ok (.aload_n 0, 1) := by decide +kernel
theorem dX5_skipBlanks_5 : decode cX5_skipBlanks 5 = .ok (.getfield 9, 3) := by decide +kernel
theorem dX5_skipBlanks_8 : decode cX5_skipBlanks 8 = .ok (.getfield 37, 3) := by decide +kernel
theorem dX5_skipBlanks_11 : decode cX5_skipBlanks 11 = .ok (.if_icmp .ge 32, 3) := by decide +kernel
theorem dX5_skipBlanks_14 : decode cX5_skipBlanks 14 = .ok (.aload_n 0, 1) := by decide +kernel
theorem dX5_skipBlanks_15 : decode cX5_skipBlanks 15 = .ok (.getfield 9, 3) := by decide +kernel
theorem dX5_skipBlanks_18 : decode cX5_skipBlanks 18 = .ok (.aload_n 0, 1) := by decide +kernel
theorem dX5_skipBlanks_19 : decode cX5_skipBlanks 19 = .ok (.getfield 19, 3) := by decide +kernel
theorem dX5_skipBlanks_22 : decode cX5_skipBlanks 22 = .ok (.invokevirtual 145, 3) := by decide +kernel
theorem dX5_skipBlanks_25 : decode cX5_skipBlanks 25 = .ok (.bipush 32, 2) := by decide +kernel
theorem dX5_skipBlanks_27 : decode cX5_skipBlanks 27 = .ok (.if_icmp .ne 16, 3) := by decide +kernel
theorem dX5_skipBlanks_30 : decode cX5_skipBlanks 30 = .ok (.aload_n 0, 1) := by decide +kernel
theorem dX5_skipBlanks_31 : decode cX5_skipBlanks 31 = .ok (.dup, 1) := by decide +kernel
theorem dX5_skipBlanks_32 : decode cX5_skipBlanks 32 = .ok (.getfield 19, 3) := by decide +kernel
theorem dX5_skipBlanks_35 : decode cX5_skipBlanks 35 = .ok (.iconst 1, 1) := by decide +kernel
theorem dX5_skipBlanks_36 : decode cX5_skipBlanks 36 = .ok (.iadd, 1) := by decide +kernel
theorem dX5_skipBlanks_37 : decode cX5_skipBlanks 37 = .ok (.putfield 19, 3) := by decide +kernel
theorem dX5_skipBlanks_40 : decode cX5_skipBlanks 40 = .ok (.goto (-40), 3) := by decide +kernel
theorem dX5_skipBlanks_43 : decode cX5_skipBlanks 43 = .ok (.return_, 1) := by decide +kernel
theorem dX5_fail_0 : decode cX5_fail 0 = .ok (.aload_n 0, 1) := by decide +kernel
theorem dX5_fail_1 : decode cX5_fail 1 = .ok (.getfield 23, 3) := by decide +kernel
theorem dX5_fail_4 : decode cX5_fail 4 = .ok (.ifCond .ne 12, 3) := by decide +kernel
theorem dX5_fail_7 : decode cX5_fail 7 = .ok (.aload_n 0, 1) := by decide +kernel
theorem dX5_fail_8 : decode cX5_fail 8 = .ok (.iload_n 1, 1) := by decide +kernel
theorem dX5_fail_9 : decode cX5_fail 9 = .ok (.iconst 4, 1) := by decide +kernel
theorem dX5_fail_10 : decode cX5_fail 10 = .ok (.iload_n 2, 1) := by decide +kernel
theorem dX5_fail_11 : decode cX5_fail 11 = .ok (.imul, 1) := by decide +kernel
theorem dX5_fail_12 : decode cX5_fail 12 = .ok (.iadd, 1) := by decide +kernel
theorem dX5_fail_13 : decode cX5_fail 13 = .ok (.putfield 23, 3) := by decide +kernel
theorem dX5_fail_16 : decode cX5_fail 16 = .ok (.return_, 1) := by decide +kernel
theorem dX5_isSmallLetter_0 : decode cX5_isSmallLetter 0 = .ok (.iload_n 0, 1) := by decide +kernel
theorem dX5_isSmallLetter_1 : decode cX5_isSmallLetter 1 = .ok (.bipush 97, 2) := by decide +kernel
theorem dX5_isSmallLetter_3 : decode cX5_isSmallLetter 3 = .ok (.if_icmp .lt 13, 3) := by decide +kernel
theorem dX5_isSmallLetter_6 : decode cX5_isSmallLetter 6 = .ok (.iload_n 0, 1) := by decide +kernel
theorem dX5_isSmallLetter_7 : decode cX5_isSmallLetter 7 = .ok (.bipush 122, 2) := by decide +kernel
theorem dX5_isSmallLetter_9 : decode cX5_isSmallLetter 9 = .ok (.if_icmp .gt 7, 3) := by decide +kernel
theorem dX5_isSmallLetter_12 : decode cX5_isSmallLetter 12 = .ok (.iconst 1, 1) := by decide +kernel
theorem dX5_isSmallLetter_13 : decode cX5_isSmallLetter 13 = .ok (.goto 4, 3) := by decide +kernel
theorem dX5_isSmallLetter_16 : decode cX5_isSmallLetter 16 = .ok (.iconst 0, 1) := by decide +kernel
theorem dX5_isSmallLetter_17 : decode cX5_isSmallLetter 17 = .ok (.ireturn, 1) := by decide +kernel
theorem dX5_isDigit_0 : decode cX5_isDigit 0 = .ok (.iload_n 0, 1) := by decide +kernel
theorem dX5_isDigit_1 : decode cX5_isDigit 1 = .ok (.bipush 48, 2) := by decide +kernel
theorem dX5_isDigit_3 : decode cX5_isDigit 3 = .ok (.if_icmp .lt 13, 3) := by decide +kernel
theorem dX5_isDigit_6 : decode cX5_isDigit 6 = .ok (.iload_n 0, 1) := by decide +kernel
theorem dX5_isDigit_7 : decode cX5_isDigit 7 = .ok (.bipush 57, 2) := by decide +kernel
theorem dX5_isDigit_9 : decode cX5_isDigit 9 = .ok (.if_icmp .gt 7, 3) := by decide +kernel
theorem dX5_isDigit_12 : decode cX5_isDigit 12 = .ok (.iconst 1, 1) := by decide +kernel
theorem dX5_isDigit_13 : decode cX5_isDigit 13 = .ok (.goto 4, 3) := by decide +kernel
theorem dX5_isDigit_16 : decode cX5_isDigit 16 = .ok (.iconst 0, 1) := by decide +kernel
theorem dX5_isDigit_17 : decode cX5_isDigit 17 = .ok (.ireturn, 1) := by decide +kernel
theorem dX5_kindWord_0 : decode cX5_kindWord 0 = .ok (.iload_n 0, 1) := by decide +kernel
theorem dX5_kindWord_1 : decode cX5_kindWord 1 = .ok (.tableswitch 64 0 6 #[43, 46, 49, 52, 55, 58, 61], 43) := by decide +kernel
theorem dX5_kindWord_44 : decode cX5_kindWord 44 = .ok (.ldc 163, 2) := by decide +kernel
theorem dX5_kindWord_46 : decode cX5_kindWord 46 = .ok (.areturn, 1) := by decide +kernel
theorem dX5_kindWord_47 : decode cX5_kindWord 47 = .ok (.ldc 165, 2) := by decide +kernel
theorem dX5_kindWord_49 : decode cX5_kindWord 49 = .ok (.areturn, 1) := by decide +kernel
theorem dX5_kindWord_50 : decode cX5_kindWord 50 = .ok (.ldc 167, 2) := by decide +kernel
theorem dX5_kindWord_52 : decode cX5_kindWord 52 = .ok (.areturn, 1) := by decide +kernel
theorem dX5_kindWord_53 : decode cX5_kindWord 53 = .ok (.ldc 169, 2) := by decide +kernel
theorem dX5_kindWord_55 : decode cX5_kindWord 55 = .ok (.areturn, 1) := by decide +kernel
theorem dX5_kindWord_56 : decode cX5_kindWord 56 = .ok (.ldc 171, 2) := by decide +kernel
theorem dX5_kindWord_58 : decode cX5_kindWord 58 = .ok (.areturn, 1) := by decide +kernel
theorem dX5_kindWord_59 : decode cX5_kindWord 59 = .ok (.ldc 173, 2) := by decide +kernel
theorem dX5_kindWord_61 : decode cX5_kindWord 61 = .ok (.areturn, 1) := by decide +kernel
theorem dX5_kindWord_62 : decode cX5_kindWord 62 = .ok (.ldc 175, 2) := by decide +kernel
theorem dX5_kindWord_64 : decode cX5_kindWord 64 = .ok (.areturn, 1) := by decide +kernel
theorem dX5_kindWord_65 : decode cX5_kindWord 65 = .ok (.ldc 177, 2) := by decide +kernel
theorem dX5_kindWord_67 : decode cX5_kindWord 67 = .ok (.areturn, 1) := by decide +kernel
theorem dX5_wayWord_0 : decode cX5_wayWord 0 = .ok (.iload_n 0, 1) := by decide +kernel
theorem dX5_wayWord_1 : decode cX5_wayWord 1 = .ok (.tableswitch 36 0 2 #[27, 30, 33], 27) := by decide +kernel
theorem dX5_wayWord_28 : decode cX5_wayWord 28 = .ok (.ldc 179, 2) := by decide +kernel
theorem dX5_wayWord_30 : decode cX5_wayWord 30 = .ok (.areturn, 1) := by decide +kernel
theorem dX5_wayWord_31 : decode cX5_wayWord 31 = .ok (.ldc 181, 2) := by decide +kernel
theorem dX5_wayWord_33 : decode cX5_wayWord 33 = .ok (.areturn, 1) := by decide +kernel
theorem dX5_wayWord_34 : decode cX5_wayWord 34 = .ok (.ldc 183, 2) := by decide +kernel
theorem dX5_wayWord_36 : decode cX5_wayWord 36 = .ok (.areturn, 1) := by decide +kernel
theorem dX5_wayWord_37 : decode cX5_wayWord 37 = .ok (.ldc 185, 2) := by decide +kernel
theorem dX5_wayWord_39 : decode cX5_wayWord 39 = .ok (.areturn, 1) := by decide +kernel
theorem dX6_init_0 : decode cX6_init 0 = .ok (.aload_n 0, 1) := by decide +kernel
theorem dX6_init_1 : decode cX6_init 1 = .ok (.invokespecial 3, 3) := by decide +kernel
theorem dX6_init_4 : decode cX6_init 4 = .ok (.aload_n 0, 1) := by decide +kernel
theorem dX6_init_5 : decode cX6_init 5 = .ok (.bipush 8, 2) := by decide +kernel
theorem dX6_init_7 : decode cX6_init 7 = .ok (.newarray .int, 2) := by decide +kernel
theorem dX6_init_9 : decode cX6_init 9 = .ok (.putfield 9, 3) := by decide +kernel
theorem dX6_init_12 : decode cX6_init 12 = .ok (.aload_n 0, 1) := by decide +kernel
theorem dX6_init_13 : decode cX6_init 13 = .ok (.bipush 8, 2) := by decide +kernel
theorem dX6_init_15 : decode cX6_init 15 = .ok (.newarray .int, 2) := by decide +kernel
theorem dX6_init_17 : decode cX6_init 17 = .ok (.putfield 15, 3) := by decide +kernel
theorem dX6_init_20 : decode cX6_init 20 = .ok (.aload_n 0, 1) := by decide +kernel
theorem dX6_init_21 : decode cX6_init 21 = .ok (.bipush 8, 2) := by decide +kernel
theorem dX6_init_23 : decode cX6_init 23 = .ok (.newarray .boolean, 2) := by decide +kernel
theorem dX6_init_25 : decode cX6_init 25 = .ok (.putfield 18, 3) := by decide +kernel
theorem dX6_init_28 : decode cX6_init 28 = .ok (.aload_n 0, 1) := by decide +kernel
theorem dX6_init_29 : decode cX6_init 29 = .ok (.bipush 8, 2) := by decide +kernel
theorem dX6_init_31 : decode cX6_init 31 = .ok (.newarray .boolean, 2) := by decide +kernel
theorem dX6_init_33 : decode cX6_init 33 = .ok (.putfield 22, 3) := by decide +kernel
theorem dX6_init_36 : decode cX6_init 36 = .ok (.aload_n 0, 1) := by decide +kernel
theorem dX6_init_37 : decode cX6_init 37 = .ok (.invokevirtual 25, 3) := by decide +kernel
theorem dX6_init_40 : decode cX6_init 40 = .ok (.return_, 1) := by decide +kernel
theorem dX6_clear_0 : decode cX6_clear 0 = .ok (.iconst 0, 1) := by decide +kernel
theorem dX6_clear_1 : decode cX6_clear 1 = .ok (.istore_n 1, 1) := by decide +kernel
theorem dX6_clear_2 : decode cX6_clear 2 = .ok (.iload_n 1, 1) := by decide +kernel
theorem dX6_clear_3 : decode cX6_clear 3 = .ok (.bipush 8, 2) := by decide +kernel
theorem dX6_clear_5 : decode cX6_clear 5 = .ok (.if_icmp .ge 37, 3) := by decide +kernel
theorem dX6_clear_8 : decode cX6_clear 8 = .ok (.aload_n 0, 1) := by decide +kernel
theorem dX6_clear_9 : decode cX6_clear 9 = .ok (.getfield 9, 3) := by decide +kernel
theorem dX6_clear_12 : decode cX6_clear 12 = .ok (.iload_n 1, 1) := by decide +kernel
theorem dX6_clear_13 : decode cX6_clear 13 = .ok (.iconst 0, 1) := by decide +kernel
theorem dX6_clear_14 : decode cX6_clear 14 = .ok (.iastore, 1) := by decide +kernel
theorem dX6_clear_15 : decode cX6_clear 15 = .ok (.aload_n 0, 1) := by decide +kernel
theorem dX6_clear_16 : decode cX6_clear 16 = .ok (.getfield 15, 3) := by decide +kernel
theorem dX6_clear_19 : decode cX6_clear 19 = .ok (.iload_n 1, 1) := by decide +kernel
theorem dX6_clear_20 : decode cX6_clear 20 = .ok (.iconst (-1), 1) := by decide +kernel
theorem dX6_clear_21 : decode cX6_clear 21 = .ok (.iastore, 1) := by decide +kernel
theorem dX6_clear_22 : decode cX6_clear 22 = .ok (.aload_n 0, 1) := by decide +kernel
theorem dX6_clear_23 : decode cX6_clear 23 = .ok (.getfield 18, 3) := by decide +kernel
theorem dX6_clear_26 : decode cX6_clear 26 = .ok (.iload_n 1, 1) := by decide +kernel
theorem dX6_clear_27 : decode cX6_clear 27 = .ok (.iconst 0, 1) := by decide +kernel
theorem dX6_clear_28 : decode cX6_clear 28 = .ok (.bastore, 1) := by decide +kernel
theorem dX6_clear_29 : decode cX6_clear 29 = .ok (.aload_n 0, 1) := by decide +kernel
theorem dX6_clear_30 : decode cX6_clear 30 = .ok (.getfield 22, 3) := by decide +kernel
theorem dX6_clear_33 : decode cX6_clear 33 = .ok (.iload_n 1, 1) := by decide +kernel
theorem dX6_clear_34 : decode cX6_clear 34 = .ok (.iconst 0, 1) := by decide +kernel
theorem dX6_clear_35 : decode cX6_clear 35 = .ok (.bastore, 1) := by decide +kernel
theorem dX6_clear_36 : decode cX6_clear 36 = .ok (.iinc 1 1, 3) := by decide +kernel
theorem dX6_clear_39 : decode cX6_clear 39 = .ok (.goto (-37), 3) := by decide +kernel
theorem dX6_clear_42 : decode cX6_clear 42 = .ok (.aload_n 0, 1) := by decide +kernel
theorem dX6_clear_43 : decode cX6_clear 43 = .ok (.bipush 60, 2) := by decide +kernel
theorem dX6_clear_45 : decode cX6_clear 45 = .ok (.putfield 28, 3) := by decide +kernel
theorem dX6_clear_48 : decode cX6_clear 48 = .ok (.aload_n 0, 1) := by decide +kernel
theorem dX6_clear_49 : decode cX6_clear 49 = .ok (.iconst 0, 1) := by decide +kernel
theorem dX6_clear_50 : decode cX6_clear 50 = .ok (.putfield 32, 3) := by decide +kernel
theorem dX6_clear_53 : decode cX6_clear 53 = .ok (.aload_n 0, 1) := by decide +kernel
theorem dX6_clear_54 : decode cX6_clear 54 = .ok (.iconst 0, 1) := by decide +kernel
theorem dX6_clear_55 : decode cX6_clear 55 = .ok (.putfield 35, 3) := by decide +kernel
theorem dX6_clear_58 : decode cX6_clear 58 = .ok (.aload_n 0, 1) := by decide +kernel
theorem dX6_clear_59 : decode cX6_clear 59 = .ok (.iconst 1, 1) := by decide +kernel
theorem dX6_clear_60 : decode cX6_clear 60 = .ok (.putfield 39, 3) := by decide +kernel
theorem dX6_clear_63 : decode cX6_clear 63 = .ok (.return_, 1) := by decide +kernel
theorem dX6_copyFrom_0 : decode cX6_copyFrom 0 = .ok (.iconst 0, 1) := by decide +kernel
theorem dX6_copyFrom_1 : decode cX6_copyFrom 1 = .ok (.istore_n 2, 1) := by decide +kernel
theorem dX6_copyFrom_2 : decode cX6_copyFrom 2 = .ok (.iload_n 2, 1) := by decide +kernel
theorem dX6_copyFrom_3 : decode cX6_copyFrom 3 = .ok (.bipush 8, 2) := by decide +kernel
theorem dX6_copyFrom_5 : decode cX6_copyFrom 5 = .ok (.if_icmp .ge 57, 3) := by decide +kernel
theorem dX6_copyFrom_8 : decode cX6_copyFrom 8 = .ok (.aload_n 0, 1) := by decide +kernel
theorem dX6_copyFrom_9 : decode cX6_copyFrom 9 = .ok (.getfield 9, 3) := by decide +kernel
theorem dX6_copyFrom_12 : decode cX6_copyFrom 12 = .ok (.iload_n 2, 1) := by decide +kernel
theorem dX6_copyFrom_13 : decode cX6_copyFrom 13 = .ok (.aload_n 1, 1) := by decide +kernel
theorem dX6_copyFrom_14 : decode cX6_copyFrom 14 = .ok (.getfield 9, 3) := by decide +kernel
theorem dX6_copyFrom_17 : decode cX6_copyFrom 17 = .ok (.iload_n 2, 1) := by decide +kernel
theorem dX6_copyFrom_18 : decode cX6_copyFrom 18 = .ok (.iaload, 1) := by decide +kernel
theorem dX6_copyFrom_19 : decode cX6_copyFrom 19 = .ok (.iastore, 1) := by decide +kernel
theorem dX6_copyFrom_20 : decode cX6_copyFrom 20 = .ok (.aload_n 0, 1) := by decide +kernel
theorem dX6_copyFrom_21 : decode cX6_copyFrom 21 = .ok (.getfield 15, 3) := by decide +kernel
theorem dX6_copyFrom_24 : decode cX6_copyFrom 24 = .ok (.iload_n 2, 1) := by decide +kernel
theorem dX6_copyFrom_25 : decode cX6_copyFrom 25 = .ok (.aload_n 1, 1) := by decide +kernel
theorem dX6_copyFrom_26 : decode cX6_copyFrom 26 = .ok (.getfield 15, 3) := by decide +kernel
theorem dX6_copyFrom_29 : decode cX6_copyFrom 29 = .ok (.iload_n 2, 1) := by decide +kernel
theorem dX6_copyFrom_30 : decode cX6_copyFrom 30 = .ok (.iaload, 1) := by decide +kernel
theorem dX6_copyFrom_31 : decode cX6_copyFrom 31 = .ok (.iastore, 1) := by decide +kernel
theorem dX6_copyFrom_32 : decode cX6_copyFrom 32 = .ok (.aload_n 0, 1) := by decide +kernel
theorem dX6_copyFrom_33 : decode cX6_copyFrom 33 = .ok (.getfield 18, 3) := by decide +kernel
theorem dX6_copyFrom_36 : decode cX6_copyFrom 36 = .ok (.iload_n 2, 1) := by decide +kernel
theorem dX6_copyFrom_37 : decode cX6_copyFrom 37 = .ok (.aload_n 1, 1) := by decide +kernel
theorem dX6_copyFrom_38 : decode cX6_copyFrom 38 = .ok (.getfield 18, 3) := by decide +kernel
theorem dX6_copyFrom_41 : decode cX6_copyFrom 41 = .ok (.iload_n 2, 1) := by decide +kernel
theorem dX6_copyFrom_42 : decode cX6_copyFrom 42 = .ok (.baload, 1) := by decide +kernel
theorem dX6_copyFrom_43 : decode cX6_copyFrom 43 = .ok (.bastore, 1) := by decide +kernel
theorem dX6_copyFrom_44 : decode cX6_copyFrom 44 = .ok (.aload_n 0, 1) := by decide +kernel
theorem dX6_copyFrom_45 : decode cX6_copyFrom 45 = .ok (.getfield 22, 3) := by decide +kernel
theorem dX6_copyFrom_48 : decode cX6_copyFrom 48 = .ok (.iload_n 2, 1) := by decide +kernel
theorem dX6_copyFrom_49 : decode cX6_copyFrom 49 = .ok (.aload_n 1, 1) := by decide +kernel
theorem dX6_copyFrom_50 : decode cX6_copyFrom 50 = .ok (.getfield 22, 3) := by decide +kernel
theorem dX6_copyFrom_53 : decode cX6_copyFrom 53 = .ok (.iload_n 2, 1) := by decide +kernel
theorem dX6_copyFrom_54 : decode cX6_copyFrom 54 = .ok (.baload, 1) := by decide +kernel
theorem dX6_copyFrom_55 : decode cX6_copyFrom 55 = .ok (.bastore, 1) := by decide +kernel
theorem dX6_copyFrom_56 : decode cX6_copyFrom 56 = .ok (.iinc 2 1, 3) := by decide +kernel
theorem dX6_copyFrom_59 : decode cX6_copyFrom 59 = .ok (.goto (-57), 3) := by decide +kernel
theorem dX6_copyFrom_62 : decode cX6_copyFrom 62 = .ok (.aload_n 0, 1) := by decide +kernel
theorem dX6_copyFrom_63 : decode cX6_copyFrom 63 = .ok (.aload_n 1, 1) := by decide +kernel
theorem dX6_copyFrom_64 : decode cX6_copyFrom 64 = .ok (.getfield 28, 3) := by decide +kernel
theorem dX6_copyFrom_67 : decode cX6_copyFrom 67 = .ok (.putfield 28, 3) := by decide +kernel
theorem dX6_copyFrom_70 : decode cX6_copyFrom 70 = .ok (.aload_n 0, 1) := by decide +kernel
theorem dX6_copyFrom_71 : decode cX6_copyFrom 71 = .ok (.aload_n 1, 1) := by decide +kernel
theorem dX6_copyFrom_72 : decode cX6_copyFrom 72 = .ok (.getfield 32, 3) := by decide +kernel
theorem dX6_copyFrom_75 : decode cX6_copyFrom 75 = .ok (.putfield 32, 3) := by decide +kernel
theorem dX6_copyFrom_78 : decode cX6_copyFrom 78 = .ok (.aload_n 0, 1) := by decide +kernel
theorem dX6_copyFrom_79 : decode cX6_copyFrom 79 = .ok (.aload_n 1, 1) := by decide +kernel
theorem dX6_copyFrom_80 : decode cX6_copyFrom 80 = .ok (.getfield 35, 3) := by decide +kernel
theorem dX6_copyFrom_83 : decode cX6_copyFrom 83 = .ok (.putfield 35, 3) := by decide +kernel
theorem dX6_copyFrom_86 : decode cX6_copyFrom 86 = .ok (.aload_n 0, 1) := by decide +kernel
theorem dX6_copyFrom_87 : decode cX6_copyFrom 87 = .ok (.aload_n 1, 1) := by decide +kernel
theorem dX6_copyFrom_88 : decode cX6_copyFrom 88 = .ok (.getfield 39, 3) := by decide +kernel
theorem dX6_copyFrom_91 : decode cX6_copyFrom 91 = .ok (.putfield 39, 3) := by decide +kernel
theorem dX6_copyFrom_94 : decode cX6_copyFrom 94 = .ok (.return_, 1) := by decide +kernel
theorem dX6_lets_0 : decode cX6_lets 0 = .ok (.iload_n 1, 1) := by decide +kernel
theorem dX6_lets_1 : decode cX6_lets 1 = .ok (.invokestatic 42, 3) := by decide +kernel
theorem dX6_lets_4 : decode cX6_lets 4 = .ok (.ifCond .eq 16, 3) := by decide +kernel
theorem dX6_lets_7 : decode cX6_lets 7 = .ok (.aload_n 0, 1) := by decide +kernel
theorem dX6_lets_8 : decode cX6_lets 8 = .ok (.getfield 9, 3) := by decide +kernel
theorem dX6_lets_11 : decode cX6_lets 11 = .ok (.iload_n 1, 1) := by decide +kernel
theorem dX6_lets_12 : decode cX6_lets 12 = .ok (.iaload, 1) := by decide +kernel
theorem dX6_lets_13 : decode cX6_lets 13 = .ok (.ifCond .le 7, 3) := by decide +kernel
theorem dX6_lets_16 : decode cX6_lets 16 = .ok (.iconst 1, 1) := by decide +kernel
theorem dX6_lets_17 : decode cX6_lets 17 = .ok (.goto 4, 3) := by decide +kernel
theorem dX6_lets_20 : decode cX6_lets 20 = .ok (.iconst 0, 1) := by decide +kernel
theorem dX6_lets_21 : decode cX6_lets 21 = .ok (.ireturn, 1) := by decide +kernel
theorem dX6_rankOf_0 : decode cX6_rankOf 0 = .ok (.iload_n 1, 1) := by decide +kernel
theorem dX6_rankOf_1 : decode cX6_rankOf 1 = .ok (.invokestatic 42, 3) := by decide +kernel
theorem dX6_rankOf_4 : decode cX6_rankOf 4 = .ok (.ifCond .eq 12, 3) := by decide +kernel
theorem dX6_rankOf_7 : decode cX6_rankOf 7 = .ok (.aload_n 0, 1) := by decide +kernel
theorem dX6_rankOf_8 : decode cX6_rankOf 8 = .ok (.getfield 9, 3) := by decide +kernel
theorem dX6_rankOf_11 : decode cX6_rankOf 11 = .ok (.iload_n 1, 1) := by decide +kernel
theorem dX6_rankOf_12 : decode cX6_rankOf 12 = .ok (.iaload, 1) := by decide +kernel
theorem dX6_rankOf_13 : decode cX6_rankOf 13 = .ok (.goto 4, 3) := by decide +kernel
theorem dX6_rankOf_16 : decode cX6_rankOf 16 = .ok (.iconst 0, 1) := by decide +kernel
theorem dX6_rankOf_17 : decode cX6_rankOf 17 = .ok (.ireturn, 1) := by decide +kernel
theorem dX7_init_0 : decode cX7_init 0 = .ok (.aload_n 0, 1) := by decide +kernel
theorem dX7_init_1 : decode cX7_init 1 = .ok (.invokespecial 3, 3) := by decide +kernel
theorem dX7_init_4 : decode cX7_init 4 = .ok (.aload_n 0, 1) := by decide +kernel
theorem dX7_init_5 : decode cX7_init 5 = .ok (.sipush 300, 3) := by decide +kernel
theorem dX7_init_8 : decode cX7_init 8 = .ok (.newarray .int, 2) := by decide +kernel
theorem dX7_init_10 : decode cX7_init 10 = .ok (.putfield 9, 3) := by decide +kernel
theorem dX7_init_13 : decode cX7_init 13 = .ok (.aload_n 0, 1) := by decide +kernel
theorem dX7_init_14 : decode cX7_init 14 = .ok (.sipush 300, 3) := by decide +kernel
theorem dX7_init_17 : decode cX7_init 17 = .ok (.newarray .int, 2) := by decide +kernel
theorem dX7_init_19 : decode cX7_init 19 = .ok (.putfield 15, 3) := by decide +kernel
theorem dX7_init_22 : decode cX7_init 22 = .ok (.aload_n 0, 1) := by decide +kernel
theorem dX7_init_23 : decode cX7_init 23 = .ok (.sipush 300, 3) := by decide +kernel
theorem dX7_init_26 : decode cX7_init 26 = .ok (.newarray .boolean, 2) := by decide +kernel
theorem dX7_init_28 : decode cX7_init 28 = .ok (.putfield 18, 3) := by decide +kernel
theorem dX7_init_31 : decode cX7_init 31 = .ok (.aload_n 0, 1) := by decide +kernel
theorem dX7_init_32 : decode cX7_init 32 = .ok (.sipush 300, 3) := by decide +kernel
theorem dX7_init_35 : decode cX7_init 35 = .ok (.newarray .boolean, 2) := by decide +kernel
theorem dX7_init_37 : decode cX7_init 37 = .ok (.putfield 22, 3) := by decide +kernel
theorem dX7_init_40 : decode cX7_init 40 = .ok (.aload_n 0, 1) := by decide +kernel
theorem dX7_init_41 : decode cX7_init 41 = .ok (.aload_n 1, 1) := by decide +kernel
theorem dX7_init_42 : decode cX7_init 42 = .ok (.putfield 25, 3) := by decide +kernel
theorem dX7_init_45 : decode cX7_init 45 = .ok (.aload_n 0, 1) := by decide +kernel
theorem dX7_init_46 : decode cX7_init 46 = .ok (.aload_n 3, 1) := by decide +kernel
theorem dX7_init_47 : decode cX7_init 47 = .ok (.putfield 29, 3) := by decide +kernel
theorem dX7_init_50 : decode cX7_init 50 = .ok (.aload_n 0, 1) := by decide +kernel
end
section
theorem dX7_init_51 : decode cX7_init 51 = .ok (.new 33, 3) := by decide +kernel
theorem dX7_init_54 : decode cX7_init 54 = .ok (.dup, 1) := by decide +kernel
theorem dX7_init_55 : decode cX7_init 55 = .ok (.aload_n 1, 1) := by decide +kernel
theorem dX7_init_56 : decode cX7_init 56 = .ok (.aload_n 2, 1) := by decide +kernel
theorem dX7_init_57 : decode cX7_init 57 = .ok (.invokespecial 35, 3) := by decide +kernel
theorem dX7_init_60 : decode cX7_init 60 = .ok (.putfield 38, 3) := by decide +kernel
theorem dX7_init_63 : decode cX7_init 63 = .ok (.aload_n 0, 1) := by decide +kernel
theorem dX7_init_64 : decode cX7_init 64 = .ok (.new 42, 3) := by decide +kernel
theorem dX7_init_67 : decode cX7_init 67 = .ok (.dup, 1) := by decide +kernel
theorem dX7_init_68 : decode cX7_init 68 = .ok (.aload_n 1, 1) := by decide +kernel
theorem dX7_init_69 : decode cX7_init 69 = .ok (.invokespecial 44, 3) := by decide +kernel
theorem dX7_init_72 : decode cX7_init 72 = .ok (.putfield 47, 3) := by decide +kernel
theorem dX7_init_75 : decode cX7_init 75 = .ok (.aload_n 0, 1) := by decide +kernel
theorem dX7_init_76 : decode cX7_init 76 = .ok (.new 51, 3) := by decide +kernel
theorem dX7_init_79 : decode cX7_init 79 = .ok (.dup, 1) := by decide +kernel
theorem dX7_init_80 : decode cX7_init 80 = .ok (.invokespecial 53, 3) := by decide +kernel
theorem dX7_init_83 : decode cX7_init 83 = .ok (.putfield 54, 3) := by decide +kernel
theorem dX7_init_86 : decode cX7_init 86 = .ok (.aload_n 0, 1) := by decide +kernel
theorem dX7_init_87 : decode cX7_init 87 = .ok (.invokevirtual 58, 3) := by decide +kernel
theorem dX7_init_90 : decode cX7_init 90 = .ok (.return_, 1) := by decide +kernel
theorem dX7_startAnew_0 : decode cX7_startAnew 0 = .ok (.aload_n 0, 1) := by decide +kernel
theorem dX7_startAnew_1 : decode cX7_startAnew 1 = .ok (.getfield 38, 3) := by decide +kernel
theorem dX7_startAnew_4 : decode cX7_startAnew 4 = .ok (.invokevirtual 61, 3) := by decide +kernel
theorem dX7_startAnew_7 : decode cX7_startAnew 7 = .ok (.aload_n 0, 1) := by decide +kernel
theorem dX7_startAnew_8 : decode cX7_startAnew 8 = .ok (.getfield 47, 3) := by decide +kernel
theorem dX7_startAnew_11 : decode cX7_startAnew 11 = .ok (.iconst 0, 1) := by decide +kernel
theorem dX7_startAnew_12 : decode cX7_startAnew 12 = .ok (.putfield 64, 3) := by decide +kernel
theorem dX7_startAnew_15 : decode cX7_startAnew 15 = .ok (.aload_n 0, 1) := by decide +kernel
theorem dX7_startAnew_16 : decode cX7_startAnew 16 = .ok (.getfield 54, 3) := by decide +kernel
theorem dX7_startAnew_19 : decode cX7_startAnew 19 = .ok (.invokevirtual 68, 3) := by decide +kernel
theorem dX7_startAnew_22 : decode cX7_startAnew 22 = .ok (.aload_n 0, 1) := by decide +kernel
theorem dX7_startAnew_23 : decode cX7_startAnew 23 = .ok (.iconst 0, 1) := by decide +kernel
theorem dX7_startAnew_24 : decode cX7_startAnew 24 = .ok (.putfield 71, 3) := by decide +kernel
theorem dX7_startAnew_27 : decode cX7_startAnew 27 = .ok (.aload_n 0, 1) := by decide +kernel
theorem dX7_startAnew_28 : decode cX7_startAnew 28 = .ok (.iconst (-1), 1) := by decide +kernel
theorem dX7_startAnew_29 : decode cX7_startAnew 29 = .ok (.putfield 74, 3) := by decide +kernel
theorem dX7_startAnew_32 : decode cX7_startAnew 32 = .ok (.aload_n 0, 1) := by decide +kernel
theorem dX7_startAnew_33 : decode cX7_startAnew 33 = .ok (.iconst 0, 1) := by decide +kernel
theorem dX7_startAnew_34 : decode cX7_startAnew 34 = .ok (.putfield 77, 3) := by decide +kernel
theorem dX7_startAnew_37 : decode cX7_startAnew 37 = .ok (.aload_n 0, 1) := by decide +kernel
theorem dX7_startAnew_38 : decode cX7_startAnew 38 = .ok (.aload_n 0, 1) := by decide +kernel
theorem dX7_startAnew_39 : decode cX7_startAnew 39 = .ok (.getfield 25, 3) := by decide +kernel
theorem dX7_startAnew_42 : decode cX7_startAnew 42 = .ok (.getfield 80, 3) := by decide +kernel
theorem dX7_startAnew_45 : decode cX7_startAnew 45 = .ok (.putfield 85, 3) := by decide +kernel
theorem dX7_startAnew_48 : decode cX7_startAnew 48 = .ok (.aload_n 0, 1) := by decide +kernel
theorem dX7_startAnew_49 : decode cX7_startAnew 49 = .ok (.iconst 0, 1) := by decide +kernel
theorem dX7_startAnew_50 : decode cX7_startAnew 50 = .ok (.putfield 86, 3) := by decide +kernel
theorem dX7_startAnew_53 : decode cX7_startAnew 53 = .ok (.aload_n 0, 1) := by decide +kernel
theorem dX7_startAnew_54 : decode cX7_startAnew 54 = .ok (.iconst 0, 1) := by decide +kernel
theorem dX7_startAnew_55 : decode cX7_startAnew 55 = .ok (.putfield 89, 3) := by decide +kernel
theorem dX7_startAnew_58 : decode cX7_startAnew 58 = .ok (.aload_n 0, 1) := by decide +kernel
theorem dX7_startAnew_59 : decode cX7_startAnew 59 = .ok (.iconst 0, 1) := by decide +kernel
theorem dX7_startAnew_60 : decode cX7_startAnew 60 = .ok (.putfield 92, 3) := by decide +kernel
theorem dX7_startAnew_63 : decode cX7_startAnew 63 = .ok (.return_, 1) := by decide +kernel
theorem dX7_work_0 : decode cX7_work 0 = .ok (.iload_n 1, 1) := by decide +kernel
theorem dX7_work_1 : decode cX7_work 1 = .ok (.invokestatic 96, 3) := by decide +kernel
theorem dX7_work_4 : decode cX7_work 4 = .ok (.ifCond .ne 5, 3) := by decide +kernel
theorem dX7_work_7 : decode cX7_work 7 = .ok (.iconst 0, 1) := by decide +kernel
theorem dX7_work_8 : decode cX7_work 8 = .ok (.ireturn, 1) := by decide +kernel
theorem dX7_work_9 : decode cX7_work 9 = .ok (.aload_n 0, 1) := by decide +kernel
theorem dX7_work_10 : decode cX7_work 10 = .ok (.iload_n 1, 1) := by decide +kernel
theorem dX7_work_11 : decode cX7_work 11 = .ok (.invokevirtual 100, 3) := by decide +kernel
theorem dX7_work_14 : decode cX7_work 14 = .ok (.istore_n 3, 1) := by decide +kernel
theorem dX7_work_15 : decode cX7_work 15 = .ok (.iload_n 3, 1) := by decide +kernel
theorem dX7_work_16 : decode cX7_work 16 = .ok (.ifCond .ne 14, 3) := by decide +kernel
theorem dX7_work_19 : decode cX7_work 19 = .ok (.aload_n 0, 1) := by decide +kernel
theorem dX7_work_20 : decode cX7_work 20 = .ok (.iload_n 1, 1) := by decide +kernel
theorem dX7_work_21 : decode cX7_work 21 = .ok (.invokevirtual 104, 3) := by decide +kernel
theorem dX7_work_24 : decode cX7_work 24 = .ok (.ifCond .ne 6, 3) := by decide +kernel
theorem dX7_work_27 : decode cX7_work 27 = .ok (.bipush 6, 2) := by decide +kernel
theorem dX7_work_29 : decode cX7_work 29 = .ok (.istore_n 3, 1) := by decide +kernel
theorem dX7_work_30 : decode cX7_work 30 = .ok (.iload_n 2, 1) := by decide +kernel
theorem dX7_work_31 : decode cX7_work 31 = .ok (.ifCond .eq 25, 3) := by decide +kernel
theorem dX7_work_34 : decode cX7_work 34 = .ok (.aload_n 0, 1) := by decide +kernel
theorem dX7_work_35 : decode cX7_work 35 = .ok (.iload_n 1, 1) := by decide +kernel
theorem dX7_work_36 : decode cX7_work 36 = .ok (.iload_n 3, 1) := by decide +kernel
theorem dX7_work_37 : decode cX7_work 37 = .ok (.invokevirtual 107, 3) := by decide +kernel
theorem dX7_work_40 : decode cX7_work 40 = .ok (.ifCond .ne 5, 3) := by decide +kernel
theorem dX7_work_43 : decode cX7_work 43 = .ok (.iconst 0, 1) := by decide +kernel
theorem dX7_work_44 : decode cX7_work 44 = .ok (.ireturn, 1) := by decide +kernel
theorem dX7_work_45 : decode cX7_work 45 = .ok (.iload_n 3, 1) := by decide +kernel
theorem dX7_work_46 : decode cX7_work 46 = .ok (.ifCond .ne 8, 3) := by decide +kernel
theorem dX7_work_49 : decode cX7_work 49 = .ok (.bipush 6, 2) := by decide +kernel
theorem dX7_work_51 : decode cX7_work 51 = .ok (.goto 4, 3) := by decide +kernel
theorem dX7_work_54 : decode cX7_work 54 = .ok (.iconst 0, 1) := by decide +kernel
theorem dX7_work_55 : decode cX7_work 55 = .ok (.istore_n 3, 1) := by decide +kernel
theorem dX7_work_56 : decode cX7_work 56 = .ok (.aload_n 0, 1) := by decide +kernel
theorem dX7_work_57 : decode cX7_work 57 = .ok (.getfield 9, 3) := by decide +kernel
theorem dX7_work_60 : decode cX7_work 60 = .ok (.iload_n 1, 1) := by decide +kernel
theorem dX7_work_61 : decode cX7_work 61 = .ok (.iload_n 3, 1) := by decide +kernel
theorem dX7_work_62 : decode cX7_work 62 = .ok (.iastore, 1) := by decide +kernel
theorem dX7_work_63 : decode cX7_work 63 = .ok (.aload_n 0, 1) := by decide +kernel
theorem dX7_work_64 : decode cX7_work 64 = .ok (.getfield 15, 3) := by decide +kernel
theorem dX7_work_67 : decode cX7_work 67 = .ok (.iload_n 1, 1) := by decide +kernel
theorem dX7_work_68 : decode cX7_work 68 = .ok (.iconst (-1), 1) := by decide +kernel
theorem dX7_work_69 : decode cX7_work 69 = .ok (.iastore, 1) := by decide +kernel
theorem dX7_work_70 : decode cX7_work 70 = .ok (.aload_n 0, 1) := by decide +kernel
theorem dX7_work_71 : decode cX7_work 71 = .ok (.getfield 18, 3) := by decide +kernel
theorem dX7_work_74 : decode cX7_work 74 = .ok (.iload_n 1, 1) := by decide +kernel
theorem dX7_work_75 : decode cX7_work 75 = .ok (.iconst 0, 1) := by decide +kernel
theorem dX7_work_76 : decode cX7_work 76 = .ok (.bastore, 1) := by decide +kernel
theorem dX7_work_77 : decode cX7_work 77 = .ok (.aload_n 0, 1) := by decide +kernel
theorem dX7_work_78 : decode cX7_work 78 = .ok (.getfield 22, 3) := by decide +kernel
theorem dX7_work_81 : decode cX7_work 81 = .ok (.iload_n 1, 1) := by decide +kernel
theorem dX7_work_82 : decode cX7_work 82 = .ok (.iconst 0, 1) := by decide +kernel
theorem dX7_work_83 : decode cX7_work 83 = .ok (.bastore, 1) := by decide +kernel
theorem dX7_work_84 : decode cX7_work 84 = .ok (.aload_n 0, 1) := by decide +kernel
theorem dX7_work_85 : decode cX7_work 85 = .ok (.iload_n 1, 1) := by decide +kernel
theorem dX7_work_86 : decode cX7_work 86 = .ok (.iconst 1, 1) := by decide +kernel
theorem dX7_work_87 : decode cX7_work 87 = .ok (.iadd, 1) := by decide +kernel
theorem dX7_work_88 : decode cX7_work 88 = .ok (.putfield 71, 3) := by decide +kernel
theorem dX7_work_91 : decode cX7_work 91 = .ok (.iload_n 3, 1) := by decide +kernel
theorem dX7_work_92 : decode cX7_work 92 = .ok (.ifCond .ne 11, 3) := by decide +kernel
theorem dX7_work_95 : decode cX7_work 95 = .ok (.aload_n 0, 1) := by decide +kernel
theorem dX7_work_96 : decode cX7_work 96 = .ok (.iload_n 1, 1) := by decide +kernel
theorem dX7_work_97 : decode cX7_work 97 = .ok (.invokevirtual 111, 3) := by decide +kernel
theorem dX7_work_100 : decode cX7_work 100 = .ok (.goto 41, 3) := by decide +kernel
theorem dX7_work_103 : decode cX7_work 103 = .ok (.iload_n 3, 1) := by decide +kernel
theorem dX7_work_104 : decode cX7_work 104 = .ok (.bipush 6, 2) := by decide +kernel
theorem dX7_work_106 : decode cX7_work 106 = .ok (.if_icmp .ne 35, 3) := by decide +kernel
theorem dX7_work_109 : decode cX7_work 109 = .ok (.aload_n 0, 1) := by decide +kernel
theorem dX7_work_110 : decode cX7_work 110 = .ok (.getfield 29, 3) := by decide +kernel
theorem dX7_work_113 : decode cX7_work 113 = .ok (.getfield 115, 3) := by decide +kernel
theorem dX7_work_116 : decode cX7_work 116 = .ok (.iload_n 1, 1) := by decide +kernel
theorem dX7_work_117 : decode cX7_work 117 = .ok (.iaload, 1) := by decide +kernel
theorem dX7_work_118 : decode cX7_work 118 = .ok (.bipush 6, 2) := by decide +kernel
theorem dX7_work_120 : decode cX7_work 120 = .ok (.if_icmp .eq 16, 3) := by decide +kernel
theorem dX7_work_123 : decode cX7_work 123 = .ok (.aload_n 0, 1) := by decide +kernel
theorem dX7_work_124 : decode cX7_work 124 = .ok (.getfield 29, 3) := by decide +kernel
theorem dX7_work_127 : decode cX7_work 127 = .ok (.getfield 115, 3) := by decide +kernel
theorem dX7_work_130 : decode cX7_work 130 = .ok (.iload_n 1, 1) := by decide +kernel
theorem dX7_work_131 : decode cX7_work 131 = .ok (.iaload, 1) := by decide +kernel
theorem dX7_work_132 : decode cX7_work 132 = .ok (.iconst 5, 1) := by decide +kernel
theorem dX7_work_133 : decode cX7_work 133 = .ok (.if_icmp .ne 8, 3) := by decide +kernel
theorem dX7_work_136 : decode cX7_work 136 = .ok (.aload_n 0, 1) := by decide +kernel
theorem dX7_work_137 : decode cX7_work 137 = .ok (.iload_n 1, 1) := by decide +kernel
theorem dX7_work_138 : decode cX7_work 138 = .ok (.putfield 74, 3) := by decide +kernel
theorem dX7_work_141 : decode cX7_work 141 = .ok (.iconst 1, 1) := by decide +kernel
theorem dX7_work_142 : decode cX7_work 142 = .ok (.ireturn, 1) := by decide +kernel
theorem dX7_rulingOf_0 : decode cX7_rulingOf 0 = .ok (.aload_n 0, 1) := by decide +kernel
theorem dX7_rulingOf_1 : decode cX7_rulingOf 1 = .ok (.iload_n 1, 1) := by decide +kernel
theorem dX7_rulingOf_2 : decode cX7_rulingOf 2 = .ok (.invokevirtual 120, 3) := by decide +kernel
theorem dX7_rulingOf_5 : decode cX7_rulingOf 5 = .ok (.ifCond .eq 12, 3) := by decide +kernel
theorem dX7_rulingOf_8 : decode cX7_rulingOf 8 = .ok (.aload_n 0, 1) := by decide +kernel
theorem dX7_rulingOf_9 : decode cX7_rulingOf 9 = .ok (.getfield 9, 3) := by decide +kernel
theorem dX7_rulingOf_12 : decode cX7_rulingOf 12 = .ok (.iload_n 1, 1) := by decide +kernel
theorem dX7_rulingOf_13 : decode cX7_rulingOf 13 = .ok (.iaload, 1) := by decide +kernel
theorem dX7_rulingOf_14 : decode cX7_rulingOf 14 = .ok (.goto 4, 3) := by decide +kernel
theorem dX7_rulingOf_17 : decode cX7_rulingOf 17 = .ok (.iconst (-1), 1) := by decide +kernel
theorem dX7_rulingOf_18 : decode cX7_rulingOf 18 = .ok (.ireturn, 1) := by decide +kernel
theorem dX7_passedOf_0 : decode cX7_passedOf 0 = .ok (.aload_n 0, 1) := by decide +kernel
theorem dX7_passedOf_1 : decode cX7_passedOf 1 = .ok (.iload_n 1, 1) := by decide +kernel
theorem dX7_passedOf_2 : decode cX7_passedOf 2 = .ok (.invokevirtual 120, 3) := by decide +kernel
theorem dX7_passedOf_5 : decode cX7_passedOf 5 = .ok (.ifCond .eq 12, 3) := by decide +kernel
theorem dX7_passedOf_8 : decode cX7_passedOf 8 = .ok (.aload_n 0, 1) := by decide +kernel
theorem dX7_passedOf_9 : decode cX7_passedOf 9 = .ok (.getfield 15, 3) := by decide +kernel
theorem dX7_passedOf_12 : decode cX7_passedOf 12 = .ok (.iload_n 1, 1) := by decide +kernel
theorem dX7_passedOf_13 : decode cX7_passedOf 13 = .ok (.iaload, 1) := by decide +kernel
theorem dX7_passedOf_14 : decode cX7_passedOf 14 = .ok (.goto 4, 3) := by decide +kernel
theorem dX7_passedOf_17 : decode cX7_passedOf 17 = .ok (.iconst (-1), 1) := by decide +kernel
theorem dX7_passedOf_18 : decode cX7_passedOf 18 = .ok (.ireturn, 1) := by decide +kernel
theorem dX7_overturnedOf_0 : decode cX7_overturnedOf 0 = .ok (.aload_n 0, 1) := by decide +kernel
theorem dX7_overturnedOf_1 : decode cX7_overturnedOf 1 = .ok (.iload_n 1, 1) := by decide +kernel
theorem dX7_overturnedOf_2 : decode cX7_overturnedOf 2 = .ok (.invokevirtual 120, 3) := by decide +kernel
theorem dX7_overturnedOf_5 : decode cX7_overturnedOf 5 = .ok (.ifCond .ne 5, 3) := by decide +kernel
theorem dX7_overturnedOf_8 : decode cX7_overturnedOf 8 = .ok (.iconst (-1), 1) := by decide +kernel
theorem dX7_overturnedOf_9 : decode cX7_overturnedOf 9 = .ok (.ireturn, 1) := by decide +kernel
theorem dX7_overturnedOf_10 : decode cX7_overturnedOf 10 = .ok (.aload_n 0, 1) := by decide +kernel
theorem dX7_overturnedOf_11 : decode cX7_overturnedOf 11 = .ok (.getfield 18, 3) := by decide +kernel
theorem dX7_overturnedOf_14 : decode cX7_overturnedOf 14 = .ok (.iload_n 1, 1) := by decide +kernel
theorem dX7_overturnedOf_15 : decode cX7_overturnedOf 15 = .ok (.baload, 1) := by decide +kernel
theorem dX7_overturnedOf_16 : decode cX7_overturnedOf 16 = .ok (.ifCond .eq 7, 3) := by decide +kernel
theorem dX7_overturnedOf_19 : decode cX7_overturnedOf 19 = .ok (.iconst 1, 1) := by decide +kernel
theorem dX7_overturnedOf_20 : decode cX7_overturnedOf 20 = .ok (.goto 4, 3) := by decide +kernel
theorem dX7_overturnedOf_23 : decode cX7_overturnedOf 23 = .ok (.iconst 0, 1) := by decide +kernel
theorem dX7_overturnedOf_24 : decode cX7_overturnedOf 24 = .ok (.ireturn, 1) := by decide +kernel
theorem dX7_tell_0 : decode cX7_tell 0 = .ok (.iload_n 1, 1) := by decide +kernel
theorem dX7_tell_1 : decode cX7_tell 1 = .ok (.tableswitch 154 0 10 #[59, 67, 75, 83, 91, 96, 104, 109, 122, 144, 149], 59) := by decide +kernel
theorem dX7_tell_60 : decode cX7_tell 60 = .ok (.aload_n 0, 1) := by decide +kernel
theorem dX7_tell_61 : decode cX7_tell 61 = .ok (.getfield 77, 3) := by decide +kernel
theorem dX7_tell_64 : decode cX7_tell 64 = .ok (.invokestatic 123, 3) := by decide +kernel
theorem dX7_tell_67 : decode cX7_tell 67 = .ok (.ireturn, 1) := by decide +kernel
theorem dX7_tell_68 : decode cX7_tell 68 = .ok (.aload_n 0, 1) := by decide +kernel
theorem dX7_tell_69 : decode cX7_tell 69 = .ok (.getfield 38, 3) := by decide +kernel
theorem dX7_tell_72 : decode cX7_tell 72 = .ok (.getfield 128, 3) := by decide +kernel
theorem dX7_tell_75 : decode cX7_tell 75 = .ok (.ireturn, 1) := by decide +kernel
theorem dX7_tell_76 : decode cX7_tell 76 = .ok (.aload_n 0, 1) := by decide +kernel
theorem dX7_tell_77 : decode cX7_tell 77 = .ok (.getfield 38, 3) := by decide +kernel
theorem dX7_tell_80 : decode cX7_tell 80 = .ok (.getfield 131, 3) := by decide +kernel
theorem dX7_tell_83 : decode cX7_tell 83 = .ok (.ireturn, 1) := by decide +kernel
theorem dX7_tell_84 : decode cX7_tell 84 = .ok (.aload_n 0, 1) := by decide +kernel
theorem dX7_tell_85 : decode cX7_tell 85 = .ok (.getfield 38, 3) := by decide +kernel
theorem dX7_tell_88 : decode cX7_tell 88 = .ok (.getfield 134, 3) := by decide +kernel
theorem dX7_tell_91 : decode cX7_tell 91 = .ok (.ireturn, 1) := by decide +kernel
theorem dX7_tell_92 : decode cX7_tell 92 = .ok (.aload_n 0, 1) := by decide +kernel
theorem dX7_tell_93 : decode cX7_tell 93 = .ok (.getfield 85, 3) := by decide +kernel
theorem dX7_tell_96 : decode cX7_tell 96 = .ok (.ireturn, 1) := by decide +kernel
theorem dX7_tell_97 : decode cX7_tell 97 = .ok (.aload_n 0, 1) := by decide +kernel
theorem dX7_tell_98 : decode cX7_tell 98 = .ok (.getfield 47, 3) := by decide +kernel
theorem dX7_tell_101 : decode cX7_tell 101 = .ok (.getfield 64, 3) := by decide +kernel
theorem dX7_tell_104 : decode cX7_tell 104 = .ok (.ireturn, 1) := by decide +kernel
theorem dX7_tell_105 : decode cX7_tell 105 = .ok (.aload_n 0, 1) := by decide +kernel
theorem dX7_tell_106 : decode cX7_tell 106 = .ok (.getfield 86, 3) := by decide +kernel
theorem dX7_tell_109 : decode cX7_tell 109 = .ok (.ireturn, 1) := by decide +kernel
theorem dX7_tell_110 : decode cX7_tell 110 = .ok (.aload_n 0, 1) := by decide +kernel
theorem dX7_tell_111 : decode cX7_tell 111 = .ok (.getfield 92, 3) := by decide +kernel
theorem dX7_tell_114 : decode cX7_tell 114 = .ok (.ifCond .eq 7, 3) := by decide +kernel
theorem dX7_tell_117 : decode cX7_tell 117 = .ok (.iconst 1, 1) := by decide +kernel
theorem dX7_tell_118 : decode cX7_tell 118 = .ok (.goto 4, 3) := by decide +kernel
theorem dX7_tell_121 : decode cX7_tell 121 = .ok (.iconst 0, 1) := by decide +kernel
theorem dX7_tell_122 : decode cX7_tell 122 = .ok (.ireturn, 1) := by decide +kernel
theorem dX7_tell_123 : decode cX7_tell 123 = .ok (.aload_n 0, 1) := by decide +kernel
theorem dX7_tell_124 : decode cX7_tell 124 = .ok (.getfield 54, 3) := by decide +kernel
theorem dX7_tell_127 : decode cX7_tell 127 = .ok (.getfield 137, 3) := by decide +kernel
theorem dX7_tell_130 : decode cX7_tell 130 = .ok (.ifCond .eq 13, 3) := by decide +kernel
theorem dX7_tell_133 : decode cX7_tell 133 = .ok (.aload_n 0, 1) := by decide +kernel
theorem dX7_tell_134 : decode cX7_tell 134 = .ok (.getfield 54, 3) := by decide +kernel
theorem dX7_tell_137 : decode cX7_tell 137 = .ok (.getfield 140, 3) := by decide +kernel
theorem dX7_tell_140 : decode cX7_tell 140 = .ok (.goto 4, 3) := by decide +kernel
theorem dX7_tell_143 : decode cX7_tell 143 = .ok (.iconst (-1), 1) := by decide +kernel
theorem dX7_tell_144 : decode cX7_tell 144 = .ok (.ireturn, 1) := by decide +kernel
theorem dX7_tell_145 : decode cX7_tell 145 = .ok (.aload_n 0, 1) := by decide +kernel
theorem dX7_tell_146 : decode cX7_tell 146 = .ok (.getfield 89, 3) := by decide +kernel
theorem dX7_tell_149 : decode cX7_tell 149 = .ok (.ireturn, 1) := by decide +kernel
theorem dX7_tell_150 : decode cX7_tell 150 = .ok (.aload_n 0, 1) := by decide +kernel
theorem dX7_tell_151 : decode cX7_tell 151 = .ok (.getfield 71, 3) := by decide +kernel
theorem dX7_tell_154 : decode cX7_tell 154 = .ok (.ireturn, 1) := by decide +kernel
theorem dX7_tell_155 : decode cX7_tell 155 = .ok (.iconst (-1), 1) := by decide +kernel
theorem dX7_tell_156 : decode cX7_tell 156 = .ok (.ireturn, 1) := by decide +kernel
theorem dX7_isWorked_0 : decode cX7_isWorked 0 = .ok (.iload_n 1, 1) := by decide +kernel
theorem dX7_isWorked_1 : decode cX7_isWorked 1 = .ok (.invokestatic 96, 3) := by decide +kernel
theorem dX7_isWorked_4 : decode cX7_isWorked 4 = .ok (.ifCond .eq 15, 3) := by decide +kernel
theorem dX7_isWorked_7 : decode cX7_isWorked 7 = .ok (.iload_n 1, 1) := by decide +kernel
theorem dX7_isWorked_8 : decode cX7_isWorked 8 = .ok (.aload_n 0, 1) := by decide +kernel
theorem dX7_isWorked_9 : decode cX7_isWorked 9 = .ok (.getfield 71, 3) := by decide +kernel
theorem dX7_isWorked_12 : decode cX7_isWorked 12 = .ok (.if_icmp .ge 7, 3) := by decide +kernel
theorem dX7_isWorked_15 : decode cX7_isWorked 15 = .ok (.iconst 1, 1) := by decide +kernel
theorem dX7_isWorked_16 : decode cX7_isWorked 16 = .ok (.goto 4, 3) := by decide +kernel
theorem dX7_isWorked_19 : decode cX7_isWorked 19 = .ok (.iconst 0, 1) := by decide +kernel
theorem dX7_isWorked_20 : decode cX7_isWorked 20 = .ok (.ireturn, 1) := by decide +kernel
theorem dX7_isThere_0 : decode cX7_isThere 0 = .ok (.iload_n 1, 1) := by decide +kernel
theorem dX7_isThere_1 : decode cX7_isThere 1 = .ok (.invokestatic 141, 3) := by decide +kernel
theorem dX7_isThere_4 : decode cX7_isThere 4 = .ok (.ifCond .eq 19, 3) := by decide +kernel
theorem dX7_isThere_7 : decode cX7_isThere 7 = .ok (.aload_n 0, 1) := by decide +kernel
theorem dX7_isThere_8 : decode cX7_isThere 8 = .ok (.getfield 77, 3) := by decide +kernel
theorem dX7_isThere_11 : decode cX7_isThere 11 = .ok (.iload_n 1, 1) := by decide +kernel
theorem dX7_isThere_12 : decode cX7_isThere 12 = .ok (.iushr, 1) := by decide +kernel
theorem dX7_isThere_13 : decode cX7_isThere 13 = .ok (.iconst 1, 1) := by decide +kernel
theorem dX7_isThere_14 : decode cX7_isThere 14 = .ok (.iand, 1) := by decide +kernel
theorem dX7_isThere_15 : decode cX7_isThere 15 = .ok (.iconst 1, 1) := by decide +kernel
theorem dX7_isThere_16 : decode cX7_isThere 16 = .ok (.if_icmp .ne 7, 3) := by decide +kernel
theorem dX7_isThere_19 : decode cX7_isThere 19 = .ok (.iconst 1, 1) := by decide +kernel
theorem dX7_isThere_20 : decode cX7_isThere 20 = .ok (.goto 4, 3) := by decide +kernel
theorem dX7_isThere_23 : decode cX7_isThere 23 = .ok (.iconst 0, 1) := by decide +kernel
theorem dX7_isThere_24 : decode cX7_isThere 24 = .ok (.ireturn, 1) := by decide +kernel
theorem dX7_refusalAtLarge_0 : decode cX7_refusalAtLarge 0 = .ok (.aload_n 0, 1) := by decide +kernel
theorem dX7_refusalAtLarge_1 : decode cX7_refusalAtLarge 1 = .ok (.getfield 29, 3) := by decide +kernel
theorem dX7_refusalAtLarge_4 : decode cX7_refusalAtLarge 4 = .ok (.getfield 115, 3) := by decide +kernel
theorem dX7_refusalAtLarge_7 : decode cX7_refusalAtLarge 7 = .ok (.iload_n 1, 1) := by decide +kernel
theorem dX7_refusalAtLarge_8 : decode cX7_refusalAtLarge 8 = .ok (.iaload, 1) := by decide +kernel
theorem dX7_refusalAtLarge_9 : decode cX7_refusalAtLarge 9 = .ok (.istore_n 2, 1) := by decide +kernel
theorem dX7_refusalAtLarge_10 : decode cX7_refusalAtLarge 10 = .ok (.aload_n 0, 1) := by decide +kernel
theorem dX7_refusalAtLarge_11 : decode cX7_refusalAtLarge 11 = .ok (.iload_n 1, 1) := by decide +kernel
theorem dX7_refusalAtLarge_12 : decode cX7_refusalAtLarge 12 = .ok (.invokevirtual 144, 3) := by decide +kernel
theorem dX7_refusalAtLarge_15 : decode cX7_refusalAtLarge 15 = .ok (.ifCond .ne 5, 3) := by decide +kernel
theorem dX7_refusalAtLarge_18 : decode cX7_refusalAtLarge 18 = .ok (.iconst 1, 1) := by decide +kernel
theorem dX7_refusalAtLarge_19 : decode cX7_refusalAtLarge 19 = .ok (.ireturn, 1) := by decide +kernel
theorem dX7_refusalAtLarge_20 : decode cX7_refusalAtLarge 20 = .ok (.iload_n 2, 1) := by decide +kernel
theorem dX7_refusalAtLarge_21 : decode cX7_refusalAtLarge 21 = .ok (.invokestatic 147, 3) := by decide +kernel
theorem dX7_refusalAtLarge_24 : decode cX7_refusalAtLarge 24 = .ok (.ifCond .eq 30, 3) := by decide +kernel
theorem dX7_refusalAtLarge_27 : decode cX7_refusalAtLarge 27 = .ok (.aload_n 0, 1) := by decide +kernel
theorem dX7_refusalAtLarge_28 : decode cX7_refusalAtLarge 28 = .ok (.aload_n 0, 1) := by decide +kernel
theorem dX7_refusalAtLarge_29 : decode cX7_refusalAtLarge 29 = .ok (.getfield 29, 3) := by decide +kernel
theorem dX7_refusalAtLarge_32 : decode cX7_refusalAtLarge 32 = .ok (.getfield 150, 3) := by decide +kernel
theorem dX7_refusalAtLarge_35 : decode cX7_refusalAtLarge 35 = .ok (.iload_n 1, 1) := by decide +kernel
theorem dX7_refusalAtLarge_36 : decode cX7_refusalAtLarge 36 = .ok (.iaload, 1) := by decide +kernel
theorem dX7_refusalAtLarge_37 : decode cX7_refusalAtLarge 37 = .ok (.invokevirtual 153, 3) := by decide +kernel
theorem dX7_refusalAtLarge_40 : decode cX7_refusalAtLarge 40 = .ok (.iload_n 2, 1) := by decide +kernel
theorem dX7_refusalAtLarge_41 : decode cX7_refusalAtLarge 41 = .ok (.ifCond .ne 7, 3) := by decide +kernel
theorem dX7_refusalAtLarge_44 : decode cX7_refusalAtLarge 44 = .ok (.iconst 1, 1) := by decide +kernel
theorem dX7_refusalAtLarge_45 : decode cX7_refusalAtLarge 45 = .ok (.goto 4, 3) := by decide +kernel
theorem dX7_refusalAtLarge_48 : decode cX7_refusalAtLarge 48 = .ok (.iconst 0, 1) := by decide +kernel
theorem dX7_refusalAtLarge_49 : decode cX7_refusalAtLarge 49 = .ok (.if_icmp .ne 5, 3) := by decide +kernel
theorem dX7_refusalAtLarge_52 : decode cX7_refusalAtLarge 52 = .ok (.iconst 2, 1) := by decide +kernel
theorem dX7_refusalAtLarge_53 : decode cX7_refusalAtLarge 53 = .ok (.ireturn, 1) := by decide +kernel
theorem dX7_refusalAtLarge_54 : decode cX7_refusalAtLarge 54 = .ok (.iload_n 2, 1) := by decide +kernel
theorem dX7_refusalAtLarge_55 : decode cX7_refusalAtLarge 55 = .ok (.ifCond .eq 8, 3) := by decide +kernel
theorem dX7_refusalAtLarge_58 : decode cX7_refusalAtLarge 58 = .ok (.iload_n 2, 1) := by decide +kernel
theorem dX7_refusalAtLarge_59 : decode cX7_refusalAtLarge 59 = .ok (.iconst 1, 1) := by decide +kernel
theorem dX7_refusalAtLarge_60 : decode cX7_refusalAtLarge 60 = .ok (.if_icmp .ne 5, 3) := by decide +kernel
theorem dX7_refusalAtLarge_63 : decode cX7_refusalAtLarge 63 = .ok (.iconst 0, 1) := by decide +kernel
theorem dX7_refusalAtLarge_64 : decode cX7_refusalAtLarge 64 = .ok (.ireturn, 1) := by decide +kernel
theorem dX7_refusalAtLarge_65 : decode cX7_refusalAtLarge 65 = .ok (.aload_n 0, 1) := by decide +kernel
theorem dX7_refusalAtLarge_66 : decode cX7_refusalAtLarge 66 = .ok (.getfield 92, 3) := by decide +kernel
theorem dX7_refusalAtLarge_69 : decode cX7_refusalAtLarge 69 = .ok (.ifCond .eq 5, 3) := by decide +kernel
theorem dX7_refusalAtLarge_72 : decode cX7_refusalAtLarge 72 = .ok (.iconst 3, 1) := by decide +kernel
theorem dX7_refusalAtLarge_73 : decode cX7_refusalAtLarge 73 = .ok (.ireturn, 1) := by decide +kernel
theorem dX7_refusalAtLarge_74 : decode cX7_refusalAtLarge 74 = .ok (.aload_n 0, 1) := by decide +kernel
theorem dX7_refusalAtLarge_75 : decode cX7_refusalAtLarge 75 = .ok (.getfield 77, 3) := by decide +kernel
theorem dX7_refusalAtLarge_78 : decode cX7_refusalAtLarge 78 = .ok (.invokestatic 123, 3) := by decide +kernel
theorem dX7_refusalAtLarge_81 : decode cX7_refusalAtLarge 81 = .ok (.aload_n 0, 1) := by decide +kernel
theorem dX7_refusalAtLarge_82 : decode cX7_refusalAtLarge 82 = .ok (.getfield 25, 3) := by decide +kernel
theorem dX7_refusalAtLarge_85 : decode cX7_refusalAtLarge 85 = .ok (.getfield 156, 3) := by decide +kernel
theorem dX7_refusalAtLarge_88 : decode cX7_refusalAtLarge 88 = .ok (.if_icmp .ge 5, 3) := by decide +kernel
theorem dX7_refusalAtLarge_91 : decode cX7_refusalAtLarge 91 = .ok (.iconst 4, 1) := by decide +kernel
theorem dX7_refusalAtLarge_92 : decode cX7_refusalAtLarge 92 = .ok (.ireturn, 1) := by decide +kernel
theorem dX7_refusalAtLarge_93 : decode cX7_refusalAtLarge 93 = .ok (.aload_n 0, 1) := by decide +kernel
theorem dX7_refusalAtLarge_94 : decode cX7_refusalAtLarge 94 = .ok (.getfield 86, 3) := by decide +kernel
theorem dX7_refusalAtLarge_97 : decode cX7_refusalAtLarge 97 = .ok (.ifCond .le 12, 3) := by decide +kernel
theorem dX7_refusalAtLarge_100 : decode cX7_refusalAtLarge 100 = .ok (.iload_n 2, 1) := by decide +kernel
theorem dX7_refusalAtLarge_101 : decode cX7_refusalAtLarge 101 = .ok (.iconst 4, 1) := by decide +kernel
theorem dX7_refusalAtLarge_102 : decode cX7_refusalAtLarge 102 = .ok (.if_icmp .eq 7, 3) := by decide +kernel
theorem dX7_refusalAtLarge_105 : decode cX7_refusalAtLarge 105 = .ok (.iconst 5, 1) := by decide +kernel
theorem dX7_refusalAtLarge_106 : decode cX7_refusalAtLarge 106 = .ok (.goto 4, 3) := by decide +kernel
theorem dX7_refusalAtLarge_109 : decode cX7_refusalAtLarge 109 = .ok (.iconst 0, 1) := by decide +kernel
theorem dX7_refusalAtLarge_110 : decode cX7_refusalAtLarge 110 = .ok (.ireturn, 1) := by decide +kernel
theorem dX7_isOfMember_0 : decode cX7_isOfMember 0 = .ok (.iload_n 0, 1) := by decide +kernel
theorem dX7_isOfMember_1 : decode cX7_isOfMember 1 = .ok (.iconst 3, 1) := by decide +kernel
theorem dX7_isOfMember_2 : decode cX7_isOfMember 2 = .ok (.if_icmp .eq 24, 3) := by decide +kernel
theorem dX7_isOfMember_5 : decode cX7_isOfMember 5 = .ok (.iload_n 0, 1) := by decide +kernel
theorem dX7_isOfMember_6 : decode cX7_isOfMember 6 = .ok (.iconst 4, 1) := by decide +kernel
theorem dX7_isOfMember_7 : decode cX7_isOfMember 7 = .ok (.if_icmp .eq 19, 3) := by decide +kernel
theorem dX7_isOfMember_10 : decode cX7_isOfMember 10 = .ok (.iload_n 0, 1) := by decide +kernel
theorem dX7_isOfMember_11 : decode cX7_isOfMember 11 = .ok (.bipush 8, 2) := by decide +kernel
theorem dX7_isOfMember_13 : decode cX7_isOfMember 13 = .ok (.if_icmp .eq 13, 3) := by decide +kernel
theorem dX7_isOfMember_16 : decode cX7_isOfMember 16 = .ok (.iload_n 0, 1) := by decide +kernel
theorem dX7_isOfMember_17 : decode cX7_isOfMember 17 = .ok (.bipush 9, 2) := by decide +kernel
theorem dX7_isOfMember_19 : decode cX7_isOfMember 19 = .ok (.if_icmp .eq 7, 3) := by decide +kernel
theorem dX7_isOfMember_22 : decode cX7_isOfMember 22 = .ok (.iconst 1, 1) := by decide +kernel
theorem dX7_isOfMember_23 : decode cX7_isOfMember 23 = .ok (.goto 4, 3) := by decide +kernel
theorem dX7_isOfMember_26 : decode cX7_isOfMember 26 = .ok (.iconst 0, 1) := by decide +kernel
theorem dX7_isOfMember_27 : decode cX7_isOfMember 27 = .ok (.ireturn, 1) := by decide +kernel
theorem dX7_numbersAreAsTold_0 : decode cX7_numbersAreAsTold 0 = .ok (.aload_n 0, 1) := by decide +kernel
theorem dX7_numbersAreAsTold_1 : decode cX7_numbersAreAsTold 1 = .ok (.getfield 29, 3) := by decide +kernel
theorem dX7_numbersAreAsTold_4 : decode cX7_numbersAreAsTold 4 = .ok (.getfield 159, 3) := by decide +kernel
theorem dX7_numbersAreAsTold_7 : decode cX7_numbersAreAsTold 7 = .ok (.iload_n 1, 1) := by decide +kernel
theorem dX7_numbersAreAsTold_8 : decode cX7_numbersAreAsTold 8 = .ok (.iaload, 1) := by decide +kernel
theorem dX7_numbersAreAsTold_9 : decode cX7_numbersAreAsTold 9 = .ok (.istore_n 2, 1) := by decide +kernel
theorem dX7_numbersAreAsTold_10 : decode cX7_numbersAreAsTold 10 = .ok (.aload_n 0, 1) := by decide +kernel
theorem dX7_numbersAreAsTold_11 : decode cX7_numbersAreAsTold 11 = .ok (.getfield 29, 3) := by decide +kernel
theorem dX7_numbersAreAsTold_14 : decode cX7_numbersAreAsTold 14 = .ok (.getfield 162, 3) := by decide +kernel
theorem dX7_numbersAreAsTold_17 : decode cX7_numbersAreAsTold 17 = .ok (.iload_n 1, 1) := by decide +kernel
theorem dX7_numbersAreAsTold_18 : decode cX7_numbersAreAsTold 18 = .ok (.iaload, 1) := by decide +kernel
theorem dX7_numbersAreAsTold_19 : decode cX7_numbersAreAsTold 19 = .ok (.istore_n 3, 1) := by decide +kernel
theorem dX7_numbersAreAsTold_20 : decode cX7_numbersAreAsTold 20 = .ok (.aload_n 0, 1) := by decide +kernel
theorem dX7_numbersAreAsTold_21 : decode cX7_numbersAreAsTold 21 = .ok (.getfield 29, 3) := by decide +kernel
theorem dX7_numbersAreAsTold_24 : decode cX7_numbersAreAsTold 24 = .ok (.getfield 115, 3) := by decide +kernel
theorem dX7_numbersAreAsTold_27 : decode cX7_numbersAreAsTold 27 = .ok (.iload_n 1, 1) := by decide +kernel
theorem dX7_numbersAreAsTold_28 : decode cX7_numbersAreAsTold 28 = .ok (.iaload, 1) := by decide +kernel
theorem dX7_numbersAreAsTold_29 : decode cX7_numbersAreAsTold 29 = .ok (.tableswitch 161 3 9 #[43, 45, 161, 63, 161, 121, 146], 43) := by decide +kernel
theorem dX7_numbersAreAsTold_72 : decode cX7_numbersAreAsTold 72 = .ok (.iconst 1, 1) := by decide +kernel
theorem dX7_numbersAreAsTold_73 : decode cX7_numbersAreAsTold 73 = .ok (.ireturn, 1) := by decide +kernel
theorem dX7_numbersAreAsTold_74 : decode cX7_numbersAreAsTold 74 = .ok (.iload_n 2, 1) := by decide +kernel
theorem dX7_numbersAreAsTold_75 : decode cX7_numbersAreAsTold 75 = .ok (.iconst 1, 1) := by decide +kernel
theorem dX7_numbersAreAsTold_76 : decode cX7_numbersAreAsTold 76 = .ok (.if_icmp .lt 14, 3) := by decide +kernel
theorem dX7_numbersAreAsTold_79 : decode cX7_numbersAreAsTold 79 = .ok (.iload_n 2, 1) := by decide +kernel
theorem dX7_numbersAreAsTold_80 : decode cX7_numbersAreAsTold 80 = .ok (.sipush 9999, 3) := by decide +kernel
theorem dX7_numbersAreAsTold_83 : decode cX7_numbersAreAsTold 83 = .ok (.if_icmp .gt 7, 3) := by decide +kernel
theorem dX7_numbersAreAsTold_86 : decode cX7_numbersAreAsTold 86 = .ok (.iconst 1, 1) := by decide +kernel
theorem dX7_numbersAreAsTold_87 : decode cX7_numbersAreAsTold 87 = .ok (.goto 4, 3) := by decide +kernel
theorem dX7_numbersAreAsTold_90 : decode cX7_numbersAreAsTold 90 = .ok (.iconst 0, 1) := by decide +kernel
theorem dX7_numbersAreAsTold_91 : decode cX7_numbersAreAsTold 91 = .ok (.ireturn, 1) := by decide +kernel
theorem dX7_numbersAreAsTold_92 : decode cX7_numbersAreAsTold 92 = .ok (.aload_n 0, 1) := by decide +kernel
theorem dX7_numbersAreAsTold_93 : decode cX7_numbersAreAsTold 93 = .ok (.getfield 29, 3) := by decide +kernel
theorem dX7_numbersAreAsTold_96 : decode cX7_numbersAreAsTold 96 = .ok (.getfield 150, 3) := by decide +kernel
theorem dX7_numbersAreAsTold_99 : decode cX7_numbersAreAsTold 99 = .ok (.iload_n 1, 1) := by decide +kernel
theorem dX7_numbersAreAsTold_100 : decode cX7_numbersAreAsTold 100 = .ok (.iaload, 1) := by decide +kernel
theorem dX7_numbersAreAsTold_101 : decode cX7_numbersAreAsTold 101 = .ok (.invokestatic 141, 3) := by decide +kernel
theorem dX7_numbersAreAsTold_104 : decode cX7_numbersAreAsTold 104 = .ok (.ifCond .eq 44, 3) := by decide +kernel
theorem dX7_numbersAreAsTold_107 : decode cX7_numbersAreAsTold 107 = .ok (.aload_n 0, 1) := by decide +kernel
theorem dX7_numbersAreAsTold_108 : decode cX7_numbersAreAsTold 108 = .ok (.getfield 29, 3) := by decide +kernel
theorem dX7_numbersAreAsTold_111 : decode cX7_numbersAreAsTold 111 = .ok (.getfield 165, 3) := by decide +kernel
theorem dX7_numbersAreAsTold_114 : decode cX7_numbersAreAsTold 114 = .ok (.iload_n 1, 1) := by decide +kernel
theorem dX7_numbersAreAsTold_115 : decode cX7_numbersAreAsTold 115 = .ok (.iaload, 1) := by decide +kernel
theorem dX7_numbersAreAsTold_116 : decode cX7_numbersAreAsTold 116 = .ok (.invokestatic 168, 3) := by decide +kernel
theorem dX7_numbersAreAsTold_119 : decode cX7_numbersAreAsTold 119 = .ok (.ifCond .eq 29, 3) := by decide +kernel
theorem dX7_numbersAreAsTold_122 : decode cX7_numbersAreAsTold 122 = .ok (.iload_n 2, 1) := by decide +kernel
theorem dX7_numbersAreAsTold_123 : decode cX7_numbersAreAsTold 123 = .ok (.ifCond .lt 25, 3) := by decide +kernel
theorem dX7_numbersAreAsTold_126 : decode cX7_numbersAreAsTold 126 = .ok (.iload_n 2, 1) := by decide +kernel
theorem dX7_numbersAreAsTold_127 : decode cX7_numbersAreAsTold 127 = .ok (.sipush 999, 3) := by decide +kernel
theorem dX7_numbersAreAsTold_130 : decode cX7_numbersAreAsTold 130 = .ok (.if_icmp .gt 18, 3) := by decide +kernel
theorem dX7_numbersAreAsTold_133 : decode cX7_numbersAreAsTold 133 = .ok (.iload_n 3, 1) := by decide +kernel
theorem dX7_numbersAreAsTold_134 : decode cX7_numbersAreAsTold 134 = .ok (.ifCond .lt 14, 3) := by decide +kernel
theorem dX7_numbersAreAsTold_137 : decode cX7_numbersAreAsTold 137 = .ok (.iload_n 3, 1) := by decide +kernel
theorem dX7_numbersAreAsTold_138 : decode cX7_numbersAreAsTold 138 = .ok (.sipush 999, 3) := by decide +kernel
theorem dX7_numbersAreAsTold_141 : decode cX7_numbersAreAsTold 141 = .ok (.if_icmp .gt 7, 3) := by decide +kernel
theorem dX7_numbersAreAsTold_144 : decode cX7_numbersAreAsTold 144 = .ok (.iconst 1, 1) := by decide +kernel
theorem dX7_numbersAreAsTold_145 : decode cX7_numbersAreAsTold 145 = .ok (.goto 4, 3) := by decide +kernel
theorem dX7_numbersAreAsTold_148 : decode cX7_numbersAreAsTold 148 = .ok (.iconst 0, 1) := by decide +kernel
theorem dX7_numbersAreAsTold_149 : decode cX7_numbersAreAsTold 149 = .ok (.ireturn, 1) := by decide +kernel
theorem dX7_numbersAreAsTold_150 : decode cX7_numbersAreAsTold 150 = .ok (.iload_n 2, 1) := by decide +kernel
theorem dX7_numbersAreAsTold_151 : decode cX7_numbersAreAsTold 151 = .ok (.iload_n 3, 1) := by decide +kernel
theorem dX7_numbersAreAsTold_152 : decode cX7_numbersAreAsTold 152 = .ok (.iand, 1) := by decide +kernel
theorem dX7_numbersAreAsTold_153 : decode cX7_numbersAreAsTold 153 = .ok (.ifCond .ne 20, 3) := by decide +kernel
theorem dX7_numbersAreAsTold_156 : decode cX7_numbersAreAsTold 156 = .ok (.iload_n 2, 1) := by decide +kernel
theorem dX7_numbersAreAsTold_157 : decode cX7_numbersAreAsTold 157 = .ok (.iload_n 3, 1) := by decide +kernel
theorem dX7_numbersAreAsTold_158 : decode cX7_numbersAreAsTold 158 = .ok (.ior, 1) := by decide +kernel
theorem dX7_numbersAreAsTold_159 : decode cX7_numbersAreAsTold 159 = .ok (.aload_n 0, 1) := by decide +kernel
theorem dX7_numbersAreAsTold_160 : decode cX7_numbersAreAsTold 160 = .ok (.getfield 77, 3) := by decide +kernel
theorem dX7_numbersAreAsTold_163 : decode cX7_numbersAreAsTold 163 = .ok (.iconst (-1), 1) := by decide +kernel
theorem dX7_numbersAreAsTold_164 : decode cX7_numbersAreAsTold 164 = .ok (.ixor, 1) := by decide +kernel
theorem dX7_numbersAreAsTold_165 : decode cX7_numbersAreAsTold 165 = .ok (.iand, 1) := by decide +kernel
theorem dX7_numbersAreAsTold_166 : decode cX7_numbersAreAsTold 166 = .ok (.ifCond .ne 7, 3) := by decide +kernel
theorem dX7_numbersAreAsTold_169 : decode cX7_numbersAreAsTold 169 = .ok (.iconst 1, 1) := by decide +kernel
theorem dX7_numbersAreAsTold_170 : decode cX7_numbersAreAsTold 170 = .ok (.goto 4, 3) := by decide +kernel
theorem dX7_numbersAreAsTold_173 : decode cX7_numbersAreAsTold 173 = .ok (.iconst 0, 1) := by decide +kernel
theorem dX7_numbersAreAsTold_174 : decode cX7_numbersAreAsTold 174 = .ok (.ireturn, 1) := by decide +kernel
theorem dX7_numbersAreAsTold_175 : decode cX7_numbersAreAsTold 175 = .ok (.iload_n 2, 1) := by decide +kernel
theorem dX7_numbersAreAsTold_176 : decode cX7_numbersAreAsTold 176 = .ok (.ifCond .eq 8, 3) := by decide +kernel
theorem dX7_numbersAreAsTold_179 : decode cX7_numbersAreAsTold 179 = .ok (.iload_n 2, 1) := by decide +kernel
theorem dX7_numbersAreAsTold_180 : decode cX7_numbersAreAsTold 180 = .ok (.iconst 1, 1) := by decide +kernel
theorem dX7_numbersAreAsTold_181 : decode cX7_numbersAreAsTold 181 = .ok (.if_icmp .ne 7, 3) := by decide +kernel
theorem dX7_numbersAreAsTold_184 : decode cX7_numbersAreAsTold 184 = .ok (.iconst 1, 1) := by decide +kernel
theorem dX7_numbersAreAsTold_185 : decode cX7_numbersAreAsTold 185 = .ok (.goto 4, 3) := by decide +kernel
theorem dX7_numbersAreAsTold_188 : decode cX7_numbersAreAsTold 188 = .ok (.iconst 0, 1) := by decide +kernel
theorem dX7_numbersAreAsTold_189 : decode cX7_numbersAreAsTold 189 = .ok (.ireturn, 1) := by decide +kernel
theorem dX7_numbersAreAsTold_190 : decode cX7_numbersAreAsTold 190 = .ok (.aload_n 0, 1) := by decide +kernel
theorem dX7_numbersAreAsTold_191 : decode cX7_numbersAreAsTold 191 = .ok (.getfield 29, 3) := by decide +kernel
theorem dX7_numbersAreAsTold_194 : decode cX7_numbersAreAsTold 194 = .ok (.getfield 150, 3) := by decide +kernel
theorem dX7_numbersAreAsTold_197 : decode cX7_numbersAreAsTold 197 = .ok (.iload_n 1, 1) := by decide +kernel
theorem dX7_numbersAreAsTold_198 : decode cX7_numbersAreAsTold 198 = .ok (.iaload, 1) := by decide +kernel
theorem dX7_numbersAreAsTold_199 : decode cX7_numbersAreAsTold 199 = .ok (.invokestatic 141, 3) := by decide +kernel
theorem dX7_numbersAreAsTold_202 : decode cX7_numbersAreAsTold 202 = .ok (.ireturn, 1) := by decide +kernel
theorem dX7_isInOrder_0 : decode cX7_isInOrder 0 = .ok (.aload_n 0, 1) := by decide +kernel
theorem dX7_isInOrder_1 : decode cX7_isInOrder 1 = .ok (.getfield 29, 3) := by decide +kernel
theorem dX7_isInOrder_4 : decode cX7_isInOrder 4 = .ok (.getfield 150, 3) := by decide +kernel
theorem dX7_isInOrder_7 : decode cX7_isInOrder 7 = .ok (.iload_n 1, 1) := by decide +kernel
theorem dX7_isInOrder_8 : decode cX7_isInOrder 8 = .ok (.iaload, 1) := by decide +kernel
theorem dX7_isInOrder_9 : decode cX7_isInOrder 9 = .ok (.istore_n 2, 1) := by decide +kernel
theorem dX7_isInOrder_10 : decode cX7_isInOrder 10 = .ok (.aload_n 0, 1) := by decide +kernel
theorem dX7_isInOrder_11 : decode cX7_isInOrder 11 = .ok (.getfield 29, 3) := by decide +kernel
theorem dX7_isInOrder_14 : decode cX7_isInOrder 14 = .ok (.getfield 115, 3) := by decide +kernel
theorem dX7_isInOrder_17 : decode cX7_isInOrder 17 = .ok (.iload_n 1, 1) := by decide +kernel
theorem dX7_isInOrder_18 : decode cX7_isInOrder 18 = .ok (.iaload, 1) := by decide +kernel
theorem dX7_isInOrder_19 : decode cX7_isInOrder 19 = .ok (.tableswitch 123 2 9 #[45, 54, 123, 81, 90, 96, 105, 114], 45) := by decide +kernel
theorem dX7_isInOrder_64 : decode cX7_isInOrder 64 = .ok (.aload_n 0, 1) := by decide +kernel
theorem dX7_isInOrder_65 : decode cX7_isInOrder 65 = .ok (.getfield 38, 3) := by decide +kernel
theorem dX7_isInOrder_68 : decode cX7_isInOrder 68 = .ok (.iload_n 2, 1) := by decide +kernel
theorem dX7_isInOrder_69 : decode cX7_isInOrder 69 = .ok (.invokevirtual 171, 3) := by decide +kernel
theorem dX7_isInOrder_72 : decode cX7_isInOrder 72 = .ok (.ireturn, 1) := by decide +kernel
theorem dX7_isInOrder_73 : decode cX7_isInOrder 73 = .ok (.aload_n 0, 1) := by decide +kernel
theorem dX7_isInOrder_74 : decode cX7_isInOrder 74 = .ok (.getfield 38, 3) := by decide +kernel
theorem dX7_isInOrder_77 : decode cX7_isInOrder 77 = .ok (.getfield 128, 3) := by decide +kernel
theorem dX7_isInOrder_80 : decode cX7_isInOrder 80 = .ok (.ifCond .le 18, 3) := by decide +kernel
theorem dX7_isInOrder_83 : decode cX7_isInOrder 83 = .ok (.aload_n 0, 1) := by decide +kernel
theorem dX7_isInOrder_84 : decode cX7_isInOrder 84 = .ok (.getfield 38, 3) := by decide +kernel
theorem dX7_isInOrder_87 : decode cX7_isInOrder 87 = .ok (.getfield 131, 3) := by decide +kernel
theorem dX7_isInOrder_90 : decode cX7_isInOrder 90 = .ok (.iconst (-1), 1) := by decide +kernel
theorem dX7_isInOrder_91 : decode cX7_isInOrder 91 = .ok (.if_icmp .ne 7, 3) := by decide +kernel
theorem dX7_isInOrder_94 : decode cX7_isInOrder 94 = .ok (.iconst 1, 1) := by decide +kernel
theorem dX7_isInOrder_95 : decode cX7_isInOrder 95 = .ok (.goto 4, 3) := by decide +kernel
theorem dX7_isInOrder_98 : decode cX7_isInOrder 98 = .ok (.iconst 0, 1) := by decide +kernel
theorem dX7_isInOrder_99 : decode cX7_isInOrder 99 = .ok (.ireturn, 1) := by decide +kernel
theorem dX7_isInOrder_100 : decode cX7_isInOrder 100 = .ok (.aload_n 0, 1) := by decide +kernel
theorem dX7_isInOrder_101 : decode cX7_isInOrder 101 = .ok (.getfield 38, 3) := by decide +kernel
theorem dX7_isInOrder_104 : decode cX7_isInOrder 104 = .ok (.iload_n 2, 1) := by decide +kernel
theorem dX7_isInOrder_105 : decode cX7_isInOrder 105 = .ok (.invokevirtual 174, 3) := by decide +kernel
theorem dX7_isInOrder_108 : decode cX7_isInOrder 108 = .ok (.ireturn, 1) := by decide +kernel
theorem dX7_isInOrder_109 : decode cX7_isInOrder 109 = .ok (.aload_n 0, 1) := by decide +kernel
theorem dX7_isInOrder_110 : decode cX7_isInOrder 110 = .ok (.iload_n 1, 1) := by decide +kernel
theorem dX7_isInOrder_111 : decode cX7_isInOrder 111 = .ok (.invokevirtual 177, 3) := by decide +kernel
theorem dX7_isInOrder_114 : decode cX7_isInOrder 114 = .ok (.ireturn, 1) := by decide +kernel
theorem dX7_isInOrder_115 : decode cX7_isInOrder 115 = .ok (.aload_n 0, 1) := by decide +kernel
theorem dX7_isInOrder_116 : decode cX7_isInOrder 116 = .ok (.getfield 47, 3) := by decide +kernel
theorem dX7_isInOrder_119 : decode cX7_isInOrder 119 = .ok (.iload_n 2, 1) := by decide +kernel
theorem dX7_isInOrder_120 : decode cX7_isInOrder 120 = .ok (.invokevirtual 180, 3) := by decide +kernel
theorem dX7_isInOrder_123 : decode cX7_isInOrder 123 = .ok (.ireturn, 1) := by decide +kernel
theorem dX7_isInOrder_124 : decode cX7_isInOrder 124 = .ok (.aload_n 0, 1) := by decide +kernel
theorem dX7_isInOrder_125 : decode cX7_isInOrder 125 = .ok (.getfield 47, 3) := by decide +kernel
theorem dX7_isInOrder_128 : decode cX7_isInOrder 128 = .ok (.iconst 0, 1) := by decide +kernel
theorem dX7_isInOrder_129 : decode cX7_isInOrder 129 = .ok (.invokevirtual 183, 3) := by decide +kernel
theorem dX7_isInOrder_132 : decode cX7_isInOrder 132 = .ok (.ireturn, 1) := by decide +kernel
theorem dX7_isInOrder_133 : decode cX7_isInOrder 133 = .ok (.aload_n 0, 1) := by decide +kernel
theorem dX7_isInOrder_134 : decode cX7_isInOrder 134 = .ok (.getfield 47, 3) := by decide +kernel
theorem dX7_isInOrder_137 : decode cX7_isInOrder 137 = .ok (.iconst 1, 1) := by decide +kernel
theorem dX7_isInOrder_138 : decode cX7_isInOrder 138 = .ok (.invokevirtual 183, 3) := by decide +kernel
theorem dX7_isInOrder_141 : decode cX7_isInOrder 141 = .ok (.ireturn, 1) := by decide +kernel
theorem dX7_isInOrder_142 : decode cX7_isInOrder 142 = .ok (.iconst 1, 1) := by decide +kernel
theorem dX7_isInOrder_143 : decode cX7_isInOrder 143 = .ok (.ireturn, 1) := by decide +kernel
theorem dX7_mayMove_0 : decode cX7_mayMove 0 = .ok (.aload_n 0, 1) := by decide +kernel
theorem dX7_mayMove_1 : decode cX7_mayMove 1 = .ok (.getfield 29, 3) := by decide +kernel
theorem dX7_mayMove_4 : decode cX7_mayMove 4 = .ok (.getfield 165, 3) := by decide +kernel
theorem dX7_mayMove_7 : decode cX7_mayMove 7 = .ok (.iload_n 1, 1) := by decide +kernel
theorem dX7_mayMove_8 : decode cX7_mayMove 8 = .ok (.iaload, 1) := by decide +kernel
theorem dX7_mayMove_9 : decode cX7_mayMove 9 = .ok (.istore_n 2, 1) := by decide +kernel
theorem dX7_mayMove_10 : decode cX7_mayMove 10 = .ok (.aload_n 0, 1) := by decide +kernel
theorem dX7_mayMove_11 : decode cX7_mayMove 11 = .ok (.getfield 25, 3) := by decide +kernel
theorem dX7_mayMove_14 : decode cX7_mayMove 14 = .ok (.iload_n 2, 1) := by decide +kernel
theorem dX7_mayMove_15 : decode cX7_mayMove 15 = .ok (.invokevirtual 187, 3) := by decide +kernel
theorem dX7_mayMove_18 : decode cX7_mayMove 18 = .ok (.ifCond .eq 13, 3) := by decide +kernel
theorem dX7_mayMove_21 : decode cX7_mayMove 21 = .ok (.aload_n 0, 1) := by decide +kernel
theorem dX7_mayMove_22 : decode cX7_mayMove 22 = .ok (.getfield 47, 3) := by decide +kernel
theorem dX7_mayMove_25 : decode cX7_mayMove 25 = .ok (.invokevirtual 190, 3) := by decide +kernel
theorem dX7_mayMove_28 : decode cX7_mayMove 28 = .ok (.ifCond .eq 5, 3) := by decide +kernel
theorem dX7_mayMove_31 : decode cX7_mayMove 31 = .ok (.iconst 0, 1) := by decide +kernel
theorem dX7_mayMove_32 : decode cX7_mayMove 32 = .ok (.ireturn, 1) := by decide +kernel
theorem dX7_mayMove_33 : decode cX7_mayMove 33 = .ok (.iload_n 2, 1) := by decide +kernel
theorem dX7_mayMove_34 : decode cX7_mayMove 34 = .ok (.bipush 7, 2) := by decide +kernel
theorem dX7_mayMove_36 : decode cX7_mayMove 36 = .ok (.if_icmp .ne 28, 3) := by decide +kernel
theorem dX7_mayMove_39 : decode cX7_mayMove 39 = .ok (.aload_n 0, 1) := by decide +kernel
theorem dX7_mayMove_40 : decode cX7_mayMove 40 = .ok (.getfield 47, 3) := by decide +kernel
theorem dX7_mayMove_43 : decode cX7_mayMove 43 = .ok (.bipush 7, 2) := by decide +kernel
theorem dX7_mayMove_45 : decode cX7_mayMove 45 = .ok (.invokevirtual 194, 3) := by decide +kernel
theorem dX7_mayMove_48 : decode cX7_mayMove 48 = .ok (.ifCond .ne 14, 3) := by decide +kernel
theorem dX7_mayMove_51 : decode cX7_mayMove 51 = .ok (.aload_n 0, 1) := by decide +kernel
theorem dX7_mayMove_52 : decode cX7_mayMove 52 = .ok (.invokevirtual 197, 3) := by decide +kernel
theorem dX7_mayMove_55 : decode cX7_mayMove 55 = .ok (.ifCond .eq 7, 3) := by decide +kernel
theorem dX7_mayMove_58 : decode cX7_mayMove 58 = .ok (.iconst 1, 1) := by decide +kernel
theorem dX7_mayMove_59 : decode cX7_mayMove 59 = .ok (.goto 4, 3) := by decide +kernel
theorem dX7_mayMove_62 : decode cX7_mayMove 62 = .ok (.iconst 0, 1) := by decide +kernel
theorem dX7_mayMove_63 : decode cX7_mayMove 63 = .ok (.ireturn, 1) := by decide +kernel
theorem dX7_mayMove_64 : decode cX7_mayMove 64 = .ok (.aload_n 0, 1) := by decide +kernel
theorem dX7_mayMove_65 : decode cX7_mayMove 65 = .ok (.getfield 38, 3) := by decide +kernel
theorem dX7_mayMove_68 : decode cX7_mayMove 68 = .ok (.getfield 131, 3) := by decide +kernel
theorem dX7_mayMove_71 : decode cX7_mayMove 71 = .ok (.iconst (-1), 1) := by decide +kernel
theorem dX7_mayMove_72 : decode cX7_mayMove 72 = .ok (.if_icmp .eq 24, 3) := by decide +kernel
theorem dX7_mayMove_75 : decode cX7_mayMove 75 = .ok (.aload_n 0, 1) := by decide +kernel
theorem dX7_mayMove_76 : decode cX7_mayMove 76 = .ok (.getfield 38, 3) := by decide +kernel
theorem dX7_mayMove_79 : decode cX7_mayMove 79 = .ok (.getfield 131, 3) := by decide +kernel
theorem dX7_mayMove_82 : decode cX7_mayMove 82 = .ok (.aload_n 0, 1) := by decide +kernel
theorem dX7_mayMove_83 : decode cX7_mayMove 83 = .ok (.getfield 29, 3) := by decide +kernel
theorem dX7_mayMove_86 : decode cX7_mayMove 86 = .ok (.getfield 150, 3) := by decide +kernel
theorem dX7_mayMove_89 : decode cX7_mayMove 89 = .ok (.iload_n 1, 1) := by decide +kernel
theorem dX7_mayMove_90 : decode cX7_mayMove 90 = .ok (.iaload, 1) := by decide +kernel
theorem dX7_mayMove_91 : decode cX7_mayMove 91 = .ok (.if_icmp .eq 5, 3) := by decide +kernel
theorem dX7_mayMove_94 : decode cX7_mayMove 94 = .ok (.iconst 0, 1) := by decide +kernel
theorem dX7_mayMove_95 : decode cX7_mayMove 95 = .ok (.ireturn, 1) := by decide +kernel
theorem dX7_mayMove_96 : decode cX7_mayMove 96 = .ok (.aload_n 0, 1) := by decide +kernel
theorem dX7_mayMove_97 : decode cX7_mayMove 97 = .ok (.getfield 47, 3) := by decide +kernel
theorem dX7_mayMove_100 : decode cX7_mayMove 100 = .ok (.iload_n 2, 1) := by decide +kernel
theorem dX7_mayMove_101 : decode cX7_mayMove 101 = .ok (.invokevirtual 200, 3) := by decide +kernel
theorem dX7_mayMove_104 : decode cX7_mayMove 104 = .ok (.ifCond .eq 24, 3) := by decide +kernel
theorem dX7_mayMove_107 : decode cX7_mayMove 107 = .ok (.aload_n 0, 1) := by decide +kernel
theorem dX7_mayMove_108 : decode cX7_mayMove 108 = .ok (.iload_n 2, 1) := by decide +kernel
theorem dX7_mayMove_109 : decode cX7_mayMove 109 = .ok (.aload_n 0, 1) := by decide +kernel
theorem dX7_mayMove_110 : decode cX7_mayMove 110 = .ok (.getfield 29, 3) := by decide +kernel
theorem dX7_mayMove_113 : decode cX7_mayMove 113 = .ok (.getfield 159, 3) := by decide +kernel
theorem dX7_mayMove_116 : decode cX7_mayMove 116 = .ok (.iload_n 1, 1) := by decide +kernel
theorem dX7_mayMove_117 : decode cX7_mayMove 117 = .ok (.iaload, 1) := by decide +kernel
theorem dX7_mayMove_118 : decode cX7_mayMove 118 = .ok (.invokevirtual 203, 3) := by decide +kernel
theorem dX7_mayMove_121 : decode cX7_mayMove 121 = .ok (.ifCond .eq 7, 3) := by decide +kernel
theorem dX7_mayMove_124 : decode cX7_mayMove 124 = .ok (.iconst 1, 1) := by decide +kernel
theorem dX7_mayMove_125 : decode cX7_mayMove 125 = .ok (.goto 4, 3) := by decide +kernel
theorem dX7_mayMove_128 : decode cX7_mayMove 128 = .ok (.iconst 0, 1) := by decide +kernel
theorem dX7_mayMove_129 : decode cX7_mayMove 129 = .ok (.ireturn, 1) := by decide +kernel
theorem dX7_mayMoveKind_0 : decode cX7_mayMoveKind 0 = .ok (.iload_n 1, 1) := by decide +kernel
theorem dX7_mayMoveKind_1 : decode cX7_mayMoveKind 1 = .ok (.tableswitch 137 0 5 #[39, 66, 93, 127, 119, 127], 39) := by decide +kernel
theorem dX7_mayMoveKind_40 : decode cX7_mayMoveKind 40 = .ok (.aload_n 0, 1) := by decide +kernel
theorem dX7_mayMoveKind_41 : decode cX7_mayMoveKind 41 = .ok (.getfield 54, 3) := by decide +kernel
theorem dX7_mayMoveKind_44 : decode cX7_mayMoveKind 44 = .ok (.getfield 137, 3) := by decide +kernel
theorem dX7_mayMoveKind_47 : decode cX7_mayMoveKind 47 = .ok (.ifCond .ne 18, 3) := by decide +kernel
theorem dX7_mayMoveKind_50 : decode cX7_mayMoveKind 50 = .ok (.iload_n 2, 1) := by decide +kernel
theorem dX7_mayMoveKind_51 : decode cX7_mayMoveKind 51 = .ok (.iconst 1, 1) := by decide +kernel
theorem dX7_mayMoveKind_52 : decode cX7_mayMoveKind 52 = .ok (.if_icmp .lt 13, 3) := by decide +kernel
theorem dX7_mayMoveKind_55 : decode cX7_mayMoveKind 55 = .ok (.iload_n 2, 1) := by decide +kernel
theorem dX7_mayMoveKind_56 : decode cX7_mayMoveKind 56 = .ok (.bipush 20, 2) := by decide +kernel
theorem dX7_mayMoveKind_58 : decode cX7_mayMoveKind 58 = .ok (.if_icmp .gt 7, 3) := by decide +kernel
theorem dX7_mayMoveKind_61 : decode cX7_mayMoveKind 61 = .ok (.iconst 1, 1) := by decide +kernel
theorem dX7_mayMoveKind_62 : decode cX7_mayMoveKind 62 = .ok (.goto 4, 3) := by decide +kernel
theorem dX7_mayMoveKind_65 : decode cX7_mayMoveKind 65 = .ok (.iconst 0, 1) := by decide +kernel
theorem dX7_mayMoveKind_66 : decode cX7_mayMoveKind 66 = .ok (.ireturn, 1) := by decide +kernel
theorem dX7_mayMoveKind_67 : decode cX7_mayMoveKind 67 = .ok (.aload_n 0, 1) := by decide +kernel
theorem dX7_mayMoveKind_68 : decode cX7_mayMoveKind 68 = .ok (.getfield 54, 3) := by decide +kernel
theorem dX7_mayMoveKind_71 : decode cX7_mayMoveKind 71 = .ok (.getfield 137, 3) := by decide +kernel
theorem dX7_mayMoveKind_74 : decode cX7_mayMoveKind 74 = .ok (.ifCond .eq 18, 3) := by decide +kernel
theorem dX7_mayMoveKind_77 : decode cX7_mayMoveKind 77 = .ok (.aload_n 0, 1) := by decide +kernel
theorem dX7_mayMoveKind_78 : decode cX7_mayMoveKind 78 = .ok (.getfield 54, 3) := by decide +kernel
theorem dX7_mayMoveKind_81 : decode cX7_mayMoveKind 81 = .ok (.iload_n 2, 1) := by decide +kernel
theorem dX7_mayMoveKind_82 : decode cX7_mayMoveKind 82 = .ok (.invokevirtual 206, 3) := by decide +kernel
theorem dX7_mayMoveKind_85 : decode cX7_mayMoveKind 85 = .ok (.ifCond .eq 7, 3) := by decide +kernel
theorem dX7_mayMoveKind_88 : decode cX7_mayMoveKind 88 = .ok (.iconst 1, 1) := by decide +kernel
theorem dX7_mayMoveKind_89 : decode cX7_mayMoveKind 89 = .ok (.goto 4, 3) := by decide +kernel
theorem dX7_mayMoveKind_92 : decode cX7_mayMoveKind 92 = .ok (.iconst 0, 1) := by decide +kernel
theorem dX7_mayMoveKind_93 : decode cX7_mayMoveKind 93 = .ok (.ireturn, 1) := by decide +kernel
theorem dX7_mayMoveKind_94 : decode cX7_mayMoveKind 94 = .ok (.aload_n 0, 1) := by decide +kernel
theorem dX7_mayMoveKind_95 : decode cX7_mayMoveKind 95 = .ok (.getfield 54, 3) := by decide +kernel
theorem dX7_mayMoveKind_98 : decode cX7_mayMoveKind 98 = .ok (.getfield 137, 3) := by decide +kernel
theorem dX7_mayMoveKind_101 : decode cX7_mayMoveKind 101 = .ok (.ifCond .eq 17, 3) := by decide +kernel
theorem dX7_mayMoveKind_104 : decode cX7_mayMoveKind 104 = .ok (.aload_n 0, 1) := by decide +kernel
theorem dX7_mayMoveKind_105 : decode cX7_mayMoveKind 105 = .ok (.getfield 47, 3) := by decide +kernel
theorem dX7_mayMoveKind_108 : decode cX7_mayMoveKind 108 = .ok (.getfield 64, 3) := by decide +kernel
theorem dX7_mayMoveKind_111 : decode cX7_mayMoveKind 111 = .ok (.ifCond .le 7, 3) := by decide +kernel
theorem dX7_mayMoveKind_114 : decode cX7_mayMoveKind 114 = .ok (.iconst 1, 1) := by decide +kernel
theorem dX7_mayMoveKind_115 : decode cX7_mayMoveKind 115 = .ok (.goto 4, 3) := by decide +kernel
theorem dX7_mayMoveKind_118 : decode cX7_mayMoveKind 118 = .ok (.iconst 0, 1) := by decide +kernel
theorem dX7_mayMoveKind_119 : decode cX7_mayMoveKind 119 = .ok (.ireturn, 1) := by decide +kernel
theorem dX7_mayMoveKind_120 : decode cX7_mayMoveKind 120 = .ok (.aload_n 0, 1) := by decide +kernel
theorem dX7_mayMoveKind_121 : decode cX7_mayMoveKind 121 = .ok (.getfield 54, 3) := by decide +kernel
theorem dX7_mayMoveKind_124 : decode cX7_mayMoveKind 124 = .ok (.getfield 137, 3) := by decide +kernel
theorem dX7_mayMoveKind_127 : decode cX7_mayMoveKind 127 = .ok (.ireturn, 1) := by decide +kernel
theorem dX7_mayMoveKind_128 : decode cX7_mayMoveKind 128 = .ok (.iload_n 2, 1) := by decide +kernel
theorem dX7_mayMoveKind_129 : decode cX7_mayMoveKind 129 = .ok (.ifCond .le 7, 3) := by decide +kernel
theorem dX7_mayMoveKind_132 : decode cX7_mayMoveKind 132 = .ok (.iconst 1, 1) := by decide +kernel
theorem dX7_mayMoveKind_133 : decode cX7_mayMoveKind 133 = .ok (.goto 4, 3) := by decide +kernel
theorem dX7_mayMoveKind_136 : decode cX7_mayMoveKind 136 = .ok (.iconst 0, 1) := by decide +kernel
theorem dX7_mayMoveKind_137 : decode cX7_mayMoveKind 137 = .ok (.ireturn, 1) := by decide +kernel
theorem dX7_mayMoveKind_138 : decode cX7_mayMoveKind 138 = .ok (.iconst 1, 1) := by decide +kernel
theorem dX7_mayMoveKind_139 : decode cX7_mayMoveKind 139 = .ok (.ireturn, 1) := by decide +kernel
theorem dX7_mayAppeal_0 : decode cX7_mayAppeal 0 = .ok (.aload_n 0, 1) := by decide +kernel
theorem dX7_mayAppeal_1 : decode cX7_mayAppeal 1 = .ok (.aload_n 0, 1) := by decide +kernel
theorem dX7_mayAppeal_2 : decode cX7_mayAppeal 2 = .ok (.getfield 74, 3) := by decide +kernel
theorem dX7_mayAppeal_5 : decode cX7_mayAppeal 5 = .ok (.invokevirtual 120, 3) := by decide +kernel
theorem dX7_mayAppeal_8 : decode cX7_mayAppeal 8 = .ok (.ifCond .eq 19, 3) := by decide +kernel
theorem dX7_mayAppeal_11 : decode cX7_mayAppeal 11 = .ok (.aload_n 0, 1) := by decide +kernel
theorem dX7_mayAppeal_12 : decode cX7_mayAppeal 12 = .ok (.getfield 22, 3) := by decide +kernel
theorem dX7_mayAppeal_15 : decode cX7_mayAppeal 15 = .ok (.aload_n 0, 1) := by decide +kernel
theorem dX7_mayAppeal_16 : decode cX7_mayAppeal 16 = .ok (.getfield 74, 3) := by decide +kernel
theorem dX7_mayAppeal_19 : decode cX7_mayAppeal 19 = .ok (.baload, 1) := by decide +kernel
theorem dX7_mayAppeal_20 : decode cX7_mayAppeal 20 = .ok (.ifCond .ne 7, 3) := by decide +kernel
theorem dX7_mayAppeal_23 : decode cX7_mayAppeal 23 = .ok (.iconst 1, 1) := by decide +kernel
theorem dX7_mayAppeal_24 : decode cX7_mayAppeal 24 = .ok (.goto 4, 3) := by decide +kernel
theorem dX7_mayAppeal_27 : decode cX7_mayAppeal 27 = .ok (.iconst 0, 1) := by decide +kernel
theorem dX7_mayAppeal_28 : decode cX7_mayAppeal 28 = .ok (.ireturn, 1) := by decide +kernel
theorem dX7_hasOther_0 : decode cX7_hasOther 0 = .ok (.iload_n 2, 1) := by decide +kernel
theorem dX7_hasOther_1 : decode cX7_hasOther 1 = .ok (.ifCond .ne 5, 3) := by decide +kernel
theorem dX7_hasOther_4 : decode cX7_hasOther 4 = .ok (.iconst 1, 1) := by decide +kernel
theorem dX7_hasOther_5 : decode cX7_hasOther 5 = .ok (.ireturn, 1) := by decide +kernel
theorem dX7_hasOther_6 : decode cX7_hasOther 6 = .ok (.iload_n 2, 1) := by decide +kernel
theorem dX7_hasOther_7 : decode cX7_hasOther 7 = .ok (.bipush 6, 2) := by decide +kernel
theorem dX7_hasOther_9 : decode cX7_hasOther 9 = .ok (.if_icmp .eq 5, 3) := by decide +kernel
theorem dX7_hasOther_12 : decode cX7_hasOther 12 = .ok (.iconst 0, 1) := by decide +kernel
theorem dX7_hasOther_13 : decode cX7_hasOther 13 = .ok (.ireturn, 1) := by decide +kernel
theorem dX7_hasOther_14 : decode cX7_hasOther 14 = .ok (.aload_n 0, 1) := by decide +kernel
theorem dX7_hasOther_15 : decode cX7_hasOther 15 = .ok (.getfield 29, 3) := by decide +kernel
theorem dX7_hasOther_18 : decode cX7_hasOther 18 = .ok (.getfield 115, 3) := by decide +kernel
theorem dX7_hasOther_21 : decode cX7_hasOther 21 = .ok (.iload_n 1, 1) := by decide +kernel
theorem dX7_hasOther_22 : decode cX7_hasOther 22 = .ok (.iaload, 1) := by decide +kernel
theorem dX7_hasOther_23 : decode cX7_hasOther 23 = .ok (.bipush 6, 2) := by decide +kernel
theorem dX7_hasOther_25 : decode cX7_hasOther 25 = .ok (.if_icmp .ne 38, 3) := by decide +kernel
theorem dX7_hasOther_28 : decode cX7_hasOther 28 = .ok (.aload_n 0, 1) := by decide +kernel
theorem dX7_hasOther_29 : decode cX7_hasOther 29 = .ok (.getfield 25, 3) := by decide +kernel
theorem dX7_hasOther_32 : decode cX7_hasOther 32 = .ok (.aload_n 0, 1) := by decide +kernel
theorem dX7_hasOther_33 : decode cX7_hasOther 33 = .ok (.getfield 29, 3) := by decide +kernel
theorem dX7_hasOther_36 : decode cX7_hasOther 36 = .ok (.getfield 165, 3) := by decide +kernel
theorem dX7_hasOther_39 : decode cX7_hasOther 39 = .ok (.iload_n 1, 1) := by decide +kernel
theorem dX7_hasOther_40 : decode cX7_hasOther 40 = .ok (.iaload, 1) := by decide +kernel
theorem dX7_hasOther_41 : decode cX7_hasOther 41 = .ok (.invokevirtual 187, 3) := by decide +kernel
theorem dX7_hasOther_44 : decode cX7_hasOther 44 = .ok (.ifCond .eq 17, 3) := by decide +kernel
theorem dX7_hasOther_47 : decode cX7_hasOther 47 = .ok (.aload_n 0, 1) := by decide +kernel
theorem dX7_hasOther_48 : decode cX7_hasOther 48 = .ok (.getfield 47, 3) := by decide +kernel
theorem dX7_hasOther_51 : decode cX7_hasOther 51 = .ok (.invokevirtual 190, 3) := by decide +kernel
theorem dX7_hasOther_54 : decode cX7_hasOther 54 = .ok (.ifCond .ne 7, 3) := by decide +kernel
theorem dX7_hasOther_57 : decode cX7_hasOther 57 = .ok (.iconst 1, 1) := by decide +kernel
theorem dX7_hasOther_58 : decode cX7_hasOther 58 = .ok (.goto 4, 3) := by decide +kernel
theorem dX7_hasOther_61 : decode cX7_hasOther 61 = .ok (.iconst 0, 1) := by decide +kernel
theorem dX7_hasOther_62 : decode cX7_hasOther 62 = .ok (.ireturn, 1) := by decide +kernel
theorem dX7_hasOther_63 : decode cX7_hasOther 63 = .ok (.aload_n 0, 1) := by decide +kernel
theorem dX7_hasOther_64 : decode cX7_hasOther 64 = .ok (.getfield 29, 3) := by decide +kernel
theorem dX7_hasOther_67 : decode cX7_hasOther 67 = .ok (.getfield 115, 3) := by decide +kernel
theorem dX7_hasOther_70 : decode cX7_hasOther 70 = .ok (.iload_n 1, 1) := by decide +kernel
theorem dX7_hasOther_71 : decode cX7_hasOther 71 = .ok (.iaload, 1) := by decide +kernel
theorem dX7_hasOther_72 : decode cX7_hasOther 72 = .ok (.iconst 5, 1) := by decide +kernel
theorem dX7_hasOther_73 : decode cX7_hasOther 73 = .ok (.if_icmp .ne 18, 3) := by decide +kernel
theorem dX7_hasOther_76 : decode cX7_hasOther 76 = .ok (.aload_n 0, 1) := by decide +kernel
theorem dX7_hasOther_77 : decode cX7_hasOther 77 = .ok (.getfield 38, 3) := by decide +kernel
theorem dX7_hasOther_80 : decode cX7_hasOther 80 = .ok (.getfield 131, 3) := by decide +kernel
theorem dX7_hasOther_83 : decode cX7_hasOther 83 = .ok (.iconst (-1), 1) := by decide +kernel
theorem dX7_hasOther_84 : decode cX7_hasOther 84 = .ok (.if_icmp .eq 7, 3) := by decide +kernel
theorem dX7_hasOther_87 : decode cX7_hasOther 87 = .ok (.iconst 1, 1) := by decide +kernel
theorem dX7_hasOther_88 : decode cX7_hasOther 88 = .ok (.goto 4, 3) := by decide +kernel
theorem dX7_hasOther_91 : decode cX7_hasOther 91 = .ok (.iconst 0, 1) := by decide +kernel
theorem dX7_hasOther_92 : decode cX7_hasOther 92 = .ok (.ireturn, 1) := by decide +kernel
theorem dX7_perform_0 : decode cX7_perform 0 = .ok (.aload_n 0, 1) := by decide +kernel
theorem dX7_perform_1 : decode cX7_perform 1 = .ok (.getfield 29, 3) := by decide +kernel
theorem dX7_perform_4 : decode cX7_perform 4 = .ok (.getfield 150, 3) := by decide +kernel
theorem dX7_perform_7 : decode cX7_perform 7 = .ok (.iload_n 1, 1) := by decide +kernel
theorem dX7_perform_8 : decode cX7_perform 8 = .ok (.iaload, 1) := by decide +kernel
theorem dX7_perform_9 : decode cX7_perform 9 = .ok (.istore_n 2, 1) := by decide +kernel
theorem dX7_perform_10 : decode cX7_perform 10 = .ok (.aload_n 0, 1) := by decide +kernel
theorem dX7_perform_11 : decode cX7_perform 11 = .ok (.getfield 29, 3) := by decide +kernel
theorem dX7_perform_14 : decode cX7_perform 14 = .ok (.getfield 115, 3) := by decide +kernel
theorem dX7_perform_17 : decode cX7_perform 17 = .ok (.iload_n 1, 1) := by decide +kernel
theorem dX7_perform_18 : decode cX7_perform 18 = .ok (.iaload, 1) := by decide +kernel
theorem dX7_perform_19 : decode cX7_perform 19 = .ok (.tableswitch 196 0 7 #[45, 60, 85, 96, 117, 133, 144, 186], 45) := by decide +kernel
theorem dX7_perform_64 : decode cX7_perform 64 = .ok (.aload_n 0, 1) := by decide +kernel
theorem dX7_perform_65 : decode cX7_perform 65 = .ok (.dup, 1) := by decide +kernel
theorem dX7_perform_66 : decode cX7_perform 66 = .ok (.getfield 77, 3) := by decide +kernel
theorem dX7_perform_69 : decode cX7_perform 69 = .ok (.iconst 1, 1) := by decide +kernel
theorem dX7_perform_70 : decode cX7_perform 70 = .ok (.iload_n 2, 1) := by decide +kernel
theorem dX7_perform_71 : decode cX7_perform 71 = .ok (.ishl, 1) := by decide +kernel
theorem dX7_perform_72 : decode cX7_perform 72 = .ok (.ior, 1) := by decide +kernel
theorem dX7_perform_73 : decode cX7_perform 73 = .ok (.putfield 77, 3) := by decide +kernel
theorem dX7_perform_76 : decode cX7_perform 76 = .ok (.goto 144, 3) := by decide +kernel
theorem dX7_perform_79 : decode cX7_perform 79 = .ok (.aload_n 0, 1) := by decide +kernel
theorem dX7_perform_80 : decode cX7_perform 80 = .ok (.dup, 1) := by decide +kernel
theorem dX7_perform_81 : decode cX7_perform 81 = .ok (.getfield 77, 3) := by decide +kernel
theorem dX7_perform_84 : decode cX7_perform 84 = .ok (.iconst 1, 1) := by decide +kernel
theorem dX7_perform_85 : decode cX7_perform 85 = .ok (.iload_n 2, 1) := by decide +kernel
theorem dX7_perform_86 : decode cX7_perform 86 = .ok (.ishl, 1) := by decide +kernel
theorem dX7_perform_87 : decode cX7_perform 87 = .ok (.iconst (-1), 1) := by decide +kernel
theorem dX7_perform_88 : decode cX7_perform 88 = .ok (.ixor, 1) := by decide +kernel
theorem dX7_perform_89 : decode cX7_perform 89 = .ok (.iand, 1) := by decide +kernel
theorem dX7_perform_90 : decode cX7_perform 90 = .ok (.putfield 77, 3) := by decide +kernel
theorem dX7_perform_93 : decode cX7_perform 93 = .ok (.aload_n 0, 1) := by decide +kernel
theorem dX7_perform_94 : decode cX7_perform 94 = .ok (.getfield 38, 3) := by decide +kernel
theorem dX7_perform_97 : decode cX7_perform 97 = .ok (.iload_n 2, 1) := by decide +kernel
theorem dX7_perform_98 : decode cX7_perform 98 = .ok (.invokevirtual 209, 3) := by decide +kernel
theorem dX7_perform_101 : decode cX7_perform 101 = .ok (.goto 119, 3) := by decide +kernel
theorem dX7_perform_104 : decode cX7_perform 104 = .ok (.aload_n 0, 1) := by decide +kernel
theorem dX7_perform_105 : decode cX7_perform 105 = .ok (.getfield 38, 3) := by decide +kernel
end
section
theorem dX7_perform_108 : decode cX7_perform 108 = .ok (.iload_n 2, 1) := by decide +kernel
theorem dX7_perform_109 : decode cX7_perform 109 = .ok (.invokevirtual 212, 3) := by decide +kernel
theorem dX7_perform_112 : decode cX7_perform 112 = .ok (.goto 108, 3) := by decide +kernel
theorem dX7_perform_115 : decode cX7_perform 115 = .ok (.aload_n 0, 1) := by decide +kernel
theorem dX7_perform_116 : decode cX7_perform 116 = .ok (.getfield 38, 3) := by decide +kernel
theorem dX7_perform_119 : decode cX7_perform 119 = .ok (.aload_n 0, 1) := by decide +kernel
theorem dX7_perform_120 : decode cX7_perform 120 = .ok (.getfield 85, 3) := by decide +kernel
theorem dX7_perform_123 : decode cX7_perform 123 = .ok (.invokevirtual 215, 3) := by decide +kernel
theorem dX7_perform_126 : decode cX7_perform 126 = .ok (.aload_n 0, 1) := by decide +kernel
theorem dX7_perform_127 : decode cX7_perform 127 = .ok (.getfield 47, 3) := by decide +kernel
theorem dX7_perform_130 : decode cX7_perform 130 = .ok (.invokevirtual 218, 3) := by decide +kernel
theorem dX7_perform_133 : decode cX7_perform 133 = .ok (.goto 87, 3) := by decide +kernel
theorem dX7_perform_136 : decode cX7_perform 136 = .ok (.aload_n 0, 1) := by decide +kernel
theorem dX7_perform_137 : decode cX7_perform 137 = .ok (.aload_n 0, 1) := by decide +kernel
theorem dX7_perform_138 : decode cX7_perform 138 = .ok (.getfield 29, 3) := by decide +kernel
theorem dX7_perform_141 : decode cX7_perform 141 = .ok (.getfield 159, 3) := by decide +kernel
theorem dX7_perform_144 : decode cX7_perform 144 = .ok (.iload_n 1, 1) := by decide +kernel
theorem dX7_perform_145 : decode cX7_perform 145 = .ok (.iaload, 1) := by decide +kernel
theorem dX7_perform_146 : decode cX7_perform 146 = .ok (.invokevirtual 221, 3) := by decide +kernel
theorem dX7_perform_149 : decode cX7_perform 149 = .ok (.goto 71, 3) := by decide +kernel
theorem dX7_perform_152 : decode cX7_perform 152 = .ok (.aload_n 0, 1) := by decide +kernel
theorem dX7_perform_153 : decode cX7_perform 153 = .ok (.getfield 38, 3) := by decide +kernel
theorem dX7_perform_156 : decode cX7_perform 156 = .ok (.iload_n 2, 1) := by decide +kernel
theorem dX7_perform_157 : decode cX7_perform 157 = .ok (.invokevirtual 224, 3) := by decide +kernel
theorem dX7_perform_160 : decode cX7_perform 160 = .ok (.goto 60, 3) := by decide +kernel
theorem dX7_perform_163 : decode cX7_perform 163 = .ok (.aload_n 0, 1) := by decide +kernel
theorem dX7_perform_164 : decode cX7_perform 164 = .ok (.getfield 47, 3) := by decide +kernel
theorem dX7_perform_167 : decode cX7_perform 167 = .ok (.aload_n 0, 1) := by decide +kernel
theorem dX7_perform_168 : decode cX7_perform 168 = .ok (.getfield 29, 3) := by decide +kernel
theorem dX7_perform_171 : decode cX7_perform 171 = .ok (.getfield 165, 3) := by decide +kernel
theorem dX7_perform_174 : decode cX7_perform 174 = .ok (.iload_n 1, 1) := by decide +kernel
theorem dX7_perform_175 : decode cX7_perform 175 = .ok (.iaload, 1) := by decide +kernel
theorem dX7_perform_176 : decode cX7_perform 176 = .ok (.iload_n 2, 1) := by decide +kernel
theorem dX7_perform_177 : decode cX7_perform 177 = .ok (.aload_n 0, 1) := by decide +kernel
theorem dX7_perform_178 : decode cX7_perform 178 = .ok (.getfield 29, 3) := by decide +kernel
theorem dX7_perform_181 : decode cX7_perform 181 = .ok (.getfield 159, 3) := by decide +kernel
theorem dX7_perform_184 : decode cX7_perform 184 = .ok (.iload_n 1, 1) := by decide +kernel
theorem dX7_perform_185 : decode cX7_perform 185 = .ok (.iaload, 1) := by decide +kernel
theorem dX7_perform_186 : decode cX7_perform 186 = .ok (.aload_n 0, 1) := by decide +kernel
theorem dX7_perform_187 : decode cX7_perform 187 = .ok (.getfield 29, 3) := by decide +kernel
theorem dX7_perform_190 : decode cX7_perform 190 = .ok (.getfield 162, 3) := by decide +kernel
theorem dX7_perform_193 : decode cX7_perform 193 = .ok (.iload_n 1, 1) := by decide +kernel
theorem dX7_perform_194 : decode cX7_perform 194 = .ok (.iaload, 1) := by decide +kernel
theorem dX7_perform_195 : decode cX7_perform 195 = .ok (.aload_n 0, 1) := by decide +kernel
theorem dX7_perform_196 : decode cX7_perform 196 = .ok (.getfield 74, 3) := by decide +kernel
theorem dX7_perform_199 : decode cX7_perform 199 = .ok (.invokevirtual 227, 3) := by decide +kernel
theorem dX7_perform_202 : decode cX7_perform 202 = .ok (.goto 18, 3) := by decide +kernel
theorem dX7_perform_205 : decode cX7_perform 205 = .ok (.aload_n 0, 1) := by decide +kernel
theorem dX7_perform_206 : decode cX7_perform 206 = .ok (.getfield 47, 3) := by decide +kernel
theorem dX7_perform_209 : decode cX7_perform 209 = .ok (.invokevirtual 231, 3) := by decide +kernel
theorem dX7_perform_212 : decode cX7_perform 212 = .ok (.goto 8, 3) := by decide +kernel
theorem dX7_perform_215 : decode cX7_perform 215 = .ok (.aload_n 0, 1) := by decide +kernel
theorem dX7_perform_216 : decode cX7_perform 216 = .ok (.iload_n 1, 1) := by decide +kernel
theorem dX7_perform_217 : decode cX7_perform 217 = .ok (.invokevirtual 234, 3) := by decide +kernel
theorem dX7_perform_220 : decode cX7_perform 220 = .ok (.return_, 1) := by decide +kernel
theorem dX7_letTicksGo_0 : decode cX7_letTicksGo 0 = .ok (.aload_n 0, 1) := by decide +kernel
theorem dX7_letTicksGo_1 : decode cX7_letTicksGo 1 = .ok (.dup, 1) := by decide +kernel
theorem dX7_letTicksGo_2 : decode cX7_letTicksGo 2 = .ok (.getfield 89, 3) := by decide +kernel
theorem dX7_letTicksGo_5 : decode cX7_letTicksGo 5 = .ok (.iload_n 1, 1) := by decide +kernel
theorem dX7_letTicksGo_6 : decode cX7_letTicksGo 6 = .ok (.iadd, 1) := by decide +kernel
theorem dX7_letTicksGo_7 : decode cX7_letTicksGo 7 = .ok (.putfield 89, 3) := by decide +kernel
theorem dX7_letTicksGo_10 : decode cX7_letTicksGo 10 = .ok (.aload_n 0, 1) := by decide +kernel
theorem dX7_letTicksGo_11 : decode cX7_letTicksGo 11 = .ok (.getfield 38, 3) := by decide +kernel
theorem dX7_letTicksGo_14 : decode cX7_letTicksGo 14 = .ok (.iload_n 1, 1) := by decide +kernel
theorem dX7_letTicksGo_15 : decode cX7_letTicksGo 15 = .ok (.invokevirtual 237, 3) := by decide +kernel
theorem dX7_letTicksGo_18 : decode cX7_letTicksGo 18 = .ok (.aload_n 0, 1) := by decide +kernel
theorem dX7_letTicksGo_19 : decode cX7_letTicksGo 19 = .ok (.iconst 0, 1) := by decide +kernel
theorem dX7_letTicksGo_20 : decode cX7_letTicksGo 20 = .ok (.aload_n 0, 1) := by decide +kernel
theorem dX7_letTicksGo_21 : decode cX7_letTicksGo 21 = .ok (.getfield 86, 3) := by decide +kernel
theorem dX7_letTicksGo_24 : decode cX7_letTicksGo 24 = .ok (.iload_n 1, 1) := by decide +kernel
theorem dX7_letTicksGo_25 : decode cX7_letTicksGo 25 = .ok (.isub, 1) := by decide +kernel
theorem dX7_letTicksGo_26 : decode cX7_letTicksGo 26 = .ok (.invokestatic 240, 3) := by decide +kernel
theorem dX7_letTicksGo_29 : decode cX7_letTicksGo 29 = .ok (.putfield 86, 3) := by decide +kernel
theorem dX7_letTicksGo_32 : decode cX7_letTicksGo 32 = .ok (.return_, 1) := by decide +kernel
theorem dX7_decide_0 : decode cX7_decide 0 = .ok (.aload_n 0, 1) := by decide +kernel
theorem dX7_decide_1 : decode cX7_decide 1 = .ok (.getfield 47, 3) := by decide +kernel
theorem dX7_decide_4 : decode cX7_decide 4 = .ok (.invokevirtual 246, 3) := by decide +kernel
theorem dX7_decide_7 : decode cX7_decide 7 = .ok (.istore_n 2, 1) := by decide +kernel
theorem dX7_decide_8 : decode cX7_decide 8 = .ok (.iload_n 2, 1) := by decide +kernel
theorem dX7_decide_9 : decode cX7_decide 9 = .ok (.iconst (-1), 1) := by decide +kernel
theorem dX7_decide_10 : decode cX7_decide 10 = .ok (.if_icmp .eq 10, 3) := by decide +kernel
theorem dX7_decide_13 : decode cX7_decide 13 = .ok (.iload_n 1, 1) := by decide +kernel
theorem dX7_decide_14 : decode cX7_decide 14 = .ok (.invokestatic 96, 3) := by decide +kernel
theorem dX7_decide_17 : decode cX7_decide 17 = .ok (.ifCond .ne 4, 3) := by decide +kernel
theorem dX7_decide_20 : decode cX7_decide 20 = .ok (.return_, 1) := by decide +kernel
theorem dX7_decide_21 : decode cX7_decide 21 = .ok (.aload_n 0, 1) := by decide +kernel
theorem dX7_decide_22 : decode cX7_decide 22 = .ok (.getfield 47, 3) := by decide +kernel
theorem dX7_decide_25 : decode cX7_decide 25 = .ok (.getfield 250, 3) := by decide +kernel
theorem dX7_decide_28 : decode cX7_decide 28 = .ok (.iload_n 2, 1) := by decide +kernel
theorem dX7_decide_29 : decode cX7_decide 29 = .ok (.iaload, 1) := by decide +kernel
theorem dX7_decide_30 : decode cX7_decide 30 = .ok (.istore_n 3, 1) := by decide +kernel
theorem dX7_decide_31 : decode cX7_decide 31 = .ok (.aload_n 0, 1) := by decide +kernel
theorem dX7_decide_32 : decode cX7_decide 32 = .ok (.getfield 29, 3) := by decide +kernel
theorem dX7_decide_35 : decode cX7_decide 35 = .ok (.getfield 115, 3) := by decide +kernel
theorem dX7_decide_38 : decode cX7_decide 38 = .ok (.iload_n 1, 1) := by decide +kernel
theorem dX7_decide_39 : decode cX7_decide 39 = .ok (.iaload, 1) := by decide +kernel
theorem dX7_decide_40 : decode cX7_decide 40 = .ok (.bipush 9, 2) := by decide +kernel
theorem dX7_decide_42 : decode cX7_decide 42 = .ok (.if_icmp .ne 24, 3) := by decide +kernel
theorem dX7_decide_45 : decode cX7_decide 45 = .ok (.aload_n 0, 1) := by decide +kernel
theorem dX7_decide_46 : decode cX7_decide 46 = .ok (.getfield 29, 3) := by decide +kernel
theorem dX7_decide_49 : decode cX7_decide 49 = .ok (.getfield 159, 3) := by decide +kernel
theorem dX7_decide_52 : decode cX7_decide 52 = .ok (.iload_n 1, 1) := by decide +kernel
theorem dX7_decide_53 : decode cX7_decide 53 = .ok (.iaload, 1) := by decide +kernel
theorem dX7_decide_54 : decode cX7_decide 54 = .ok (.iconst 1, 1) := by decide +kernel
theorem dX7_decide_55 : decode cX7_decide 55 = .ok (.if_icmp .ne 7, 3) := by decide +kernel
theorem dX7_decide_58 : decode cX7_decide 58 = .ok (.iconst 1, 1) := by decide +kernel
theorem dX7_decide_59 : decode cX7_decide 59 = .ok (.goto 30, 3) := by decide +kernel
theorem dX7_decide_62 : decode cX7_decide 62 = .ok (.iconst 0, 1) := by decide +kernel
theorem dX7_decide_63 : decode cX7_decide 63 = .ok (.goto 26, 3) := by decide +kernel
theorem dX7_decide_66 : decode cX7_decide 66 = .ok (.aload_n 0, 1) := by decide +kernel
theorem dX7_decide_67 : decode cX7_decide 67 = .ok (.iload_n 3, 1) := by decide +kernel
theorem dX7_decide_68 : decode cX7_decide 68 = .ok (.aload_n 0, 1) := by decide +kernel
theorem dX7_decide_69 : decode cX7_decide 69 = .ok (.getfield 29, 3) := by decide +kernel
theorem dX7_decide_72 : decode cX7_decide 72 = .ok (.getfield 159, 3) := by decide +kernel
theorem dX7_decide_75 : decode cX7_decide 75 = .ok (.iload_n 1, 1) := by decide +kernel
theorem dX7_decide_76 : decode cX7_decide 76 = .ok (.iaload, 1) := by decide +kernel
theorem dX7_decide_77 : decode cX7_decide 77 = .ok (.aload_n 0, 1) := by decide +kernel
theorem dX7_decide_78 : decode cX7_decide 78 = .ok (.getfield 29, 3) := by decide +kernel
theorem dX7_decide_81 : decode cX7_decide 81 = .ok (.getfield 162, 3) := by decide +kernel
theorem dX7_decide_84 : decode cX7_decide 84 = .ok (.iload_n 1, 1) := by decide +kernel
theorem dX7_decide_85 : decode cX7_decide 85 = .ok (.iaload, 1) := by decide +kernel
theorem dX7_decide_86 : decode cX7_decide 86 = .ok (.invokevirtual 251, 3) := by decide +kernel
theorem dX7_decide_89 : decode cX7_decide 89 = .ok (.istore 4, 2) := by decide +kernel
theorem dX7_decide_91 : decode cX7_decide 91 = .ok (.aload_n 0, 1) := by decide +kernel
theorem dX7_decide_92 : decode cX7_decide 92 = .ok (.getfield 47, 3) := by decide +kernel
theorem dX7_decide_95 : decode cX7_decide 95 = .ok (.iload_n 2, 1) := by decide +kernel
theorem dX7_decide_96 : decode cX7_decide 96 = .ok (.putfield 64, 3) := by decide +kernel
theorem dX7_decide_99 : decode cX7_decide 99 = .ok (.aload_n 0, 1) := by decide +kernel
theorem dX7_decide_100 : decode cX7_decide 100 = .ok (.getfield 15, 3) := by decide +kernel
theorem dX7_decide_103 : decode cX7_decide 103 = .ok (.iload_n 1, 1) := by decide +kernel
theorem dX7_decide_104 : decode cX7_decide 104 = .ok (.iload 4, 2) := by decide +kernel
theorem dX7_decide_106 : decode cX7_decide 106 = .ok (.ifCond .eq 7, 3) := by decide +kernel
theorem dX7_decide_109 : decode cX7_decide 109 = .ok (.iconst 1, 1) := by decide +kernel
theorem dX7_decide_110 : decode cX7_decide 110 = .ok (.goto 4, 3) := by decide +kernel
theorem dX7_decide_113 : decode cX7_decide 113 = .ok (.iconst 0, 1) := by decide +kernel
theorem dX7_decide_114 : decode cX7_decide 114 = .ok (.iastore, 1) := by decide +kernel
theorem dX7_decide_115 : decode cX7_decide 115 = .ok (.iload_n 3, 1) := by decide +kernel
theorem dX7_decide_116 : decode cX7_decide 116 = .ok (.bipush 7, 2) := by decide +kernel
theorem dX7_decide_118 : decode cX7_decide 118 = .ok (.if_icmp .ne 21, 3) := by decide +kernel
theorem dX7_decide_121 : decode cX7_decide 121 = .ok (.aload_n 0, 1) := by decide +kernel
theorem dX7_decide_122 : decode cX7_decide 122 = .ok (.aload_n 0, 1) := by decide +kernel
theorem dX7_decide_123 : decode cX7_decide 123 = .ok (.getfield 47, 3) := by decide +kernel
theorem dX7_decide_126 : decode cX7_decide 126 = .ok (.getfield 255, 3) := by decide +kernel
theorem dX7_decide_129 : decode cX7_decide 129 = .ok (.iload_n 2, 1) := by decide +kernel
theorem dX7_decide_130 : decode cX7_decide 130 = .ok (.iaload, 1) := by decide +kernel
theorem dX7_decide_131 : decode cX7_decide 131 = .ok (.iload 4, 2) := by decide +kernel
theorem dX7_decide_133 : decode cX7_decide 133 = .ok (.invokevirtual 258, 3) := by decide +kernel
theorem dX7_decide_136 : decode cX7_decide 136 = .ok (.goto 31, 3) := by decide +kernel
theorem dX7_decide_139 : decode cX7_decide 139 = .ok (.iload 4, 2) := by decide +kernel
theorem dX7_decide_141 : decode cX7_decide 141 = .ok (.ifCond .eq 26, 3) := by decide +kernel
theorem dX7_decide_144 : decode cX7_decide 144 = .ok (.aload_n 0, 1) := by decide +kernel
theorem dX7_decide_145 : decode cX7_decide 145 = .ok (.iload_n 3, 1) := by decide +kernel
theorem dX7_decide_146 : decode cX7_decide 146 = .ok (.aload_n 0, 1) := by decide +kernel
theorem dX7_decide_147 : decode cX7_decide 147 = .ok (.getfield 47, 3) := by decide +kernel
theorem dX7_decide_150 : decode cX7_decide 150 = .ok (.getfield 262, 3) := by decide +kernel
theorem dX7_decide_153 : decode cX7_decide 153 = .ok (.iload_n 2, 1) := by decide +kernel
theorem dX7_decide_154 : decode cX7_decide 154 = .ok (.iaload, 1) := by decide +kernel
theorem dX7_decide_155 : decode cX7_decide 155 = .ok (.aload_n 0, 1) := by decide +kernel
theorem dX7_decide_156 : decode cX7_decide 156 = .ok (.getfield 47, 3) := by decide +kernel
theorem dX7_decide_159 : decode cX7_decide 159 = .ok (.getfield 263, 3) := by decide +kernel
theorem dX7_decide_162 : decode cX7_decide 162 = .ok (.iload_n 2, 1) := by decide +kernel
theorem dX7_decide_163 : decode cX7_decide 163 = .ok (.iaload, 1) := by decide +kernel
theorem dX7_decide_164 : decode cX7_decide 164 = .ok (.invokevirtual 264, 3) := by decide +kernel
theorem dX7_decide_167 : decode cX7_decide 167 = .ok (.return_, 1) := by decide +kernel
theorem dX7_isCarried_0 : decode cX7_isCarried 0 = .ok (.iload_n 2, 1) := by decide +kernel
theorem dX7_isCarried_1 : decode cX7_isCarried 1 = .ok (.invokestatic 123, 3) := by decide +kernel
theorem dX7_isCarried_4 : decode cX7_isCarried 4 = .ok (.istore 4, 2) := by decide +kernel
theorem dX7_isCarried_6 : decode cX7_isCarried 6 = .ok (.iload 4, 2) := by decide +kernel
theorem dX7_isCarried_8 : decode cX7_isCarried 8 = .ok (.iload_n 3, 1) := by decide +kernel
theorem dX7_isCarried_9 : decode cX7_isCarried 9 = .ok (.invokestatic 123, 3) := by decide +kernel
theorem dX7_isCarried_12 : decode cX7_isCarried 12 = .ok (.iadd, 1) := by decide +kernel
theorem dX7_isCarried_13 : decode cX7_isCarried 13 = .ok (.istore 5, 2) := by decide +kernel
theorem dX7_isCarried_15 : decode cX7_isCarried 15 = .ok (.iload_n 1, 1) := by decide +kernel
theorem dX7_isCarried_16 : decode cX7_isCarried 16 = .ok (.invokestatic 168, 3) := by decide +kernel
theorem dX7_isCarried_19 : decode cX7_isCarried 19 = .ok (.ifCond .eq 15, 3) := by decide +kernel
theorem dX7_isCarried_22 : decode cX7_isCarried 22 = .ok (.aload_n 0, 1) := by decide +kernel
theorem dX7_isCarried_23 : decode cX7_isCarried 23 = .ok (.getfield 25, 3) := by decide +kernel
theorem dX7_isCarried_26 : decode cX7_isCarried 26 = .ok (.getfield 268, 3) := by decide +kernel
theorem dX7_isCarried_29 : decode cX7_isCarried 29 = .ok (.iload_n 1, 1) := by decide +kernel
theorem dX7_isCarried_30 : decode cX7_isCarried 30 = .ok (.iaload, 1) := by decide +kernel
theorem dX7_isCarried_31 : decode cX7_isCarried 31 = .ok (.goto 4, 3) := by decide +kernel
theorem dX7_isCarried_34 : decode cX7_isCarried 34 = .ok (.iconst (-1), 1) := by decide +kernel
theorem dX7_isCarried_35 : decode cX7_isCarried 35 = .ok (.tableswitch 77 0 2 #[25, 40, 62], 25) := by decide +kernel
theorem dX7_isCarried_60 : decode cX7_isCarried 60 = .ok (.iconst 2, 1) := by decide +kernel
theorem dX7_isCarried_61 : decode cX7_isCarried 61 = .ok (.iload 4, 2) := by decide +kernel
theorem dX7_isCarried_63 : decode cX7_isCarried 63 = .ok (.imul, 1) := by decide +kernel
theorem dX7_isCarried_64 : decode cX7_isCarried 64 = .ok (.iload 5, 2) := by decide +kernel
theorem dX7_isCarried_66 : decode cX7_isCarried 66 = .ok (.if_icmp .le 7, 3) := by decide +kernel
theorem dX7_isCarried_69 : decode cX7_isCarried 69 = .ok (.iconst 1, 1) := by decide +kernel
theorem dX7_isCarried_70 : decode cX7_isCarried 70 = .ok (.goto 4, 3) := by decide +kernel
theorem dX7_isCarried_73 : decode cX7_isCarried 73 = .ok (.iconst 0, 1) := by decide +kernel
theorem dX7_isCarried_74 : decode cX7_isCarried 74 = .ok (.ireturn, 1) := by decide +kernel
theorem dX7_isCarried_75 : decode cX7_isCarried 75 = .ok (.iconst 3, 1) := by decide +kernel
theorem dX7_isCarried_76 : decode cX7_isCarried 76 = .ok (.iload 4, 2) := by decide +kernel
theorem dX7_isCarried_78 : decode cX7_isCarried 78 = .ok (.imul, 1) := by decide +kernel
theorem dX7_isCarried_79 : decode cX7_isCarried 79 = .ok (.iconst 2, 1) := by decide +kernel
theorem dX7_isCarried_80 : decode cX7_isCarried 80 = .ok (.iload 5, 2) := by decide +kernel
theorem dX7_isCarried_82 : decode cX7_isCarried 82 = .ok (.imul, 1) := by decide +kernel
theorem dX7_isCarried_83 : decode cX7_isCarried 83 = .ok (.if_icmp .lt 12, 3) := by decide +kernel
theorem dX7_isCarried_86 : decode cX7_isCarried 86 = .ok (.iload 4, 2) := by decide +kernel
theorem dX7_isCarried_88 : decode cX7_isCarried 88 = .ok (.ifCond .le 7, 3) := by decide +kernel
theorem dX7_isCarried_91 : decode cX7_isCarried 91 = .ok (.iconst 1, 1) := by decide +kernel
theorem dX7_isCarried_92 : decode cX7_isCarried 92 = .ok (.goto 4, 3) := by decide +kernel
theorem dX7_isCarried_95 : decode cX7_isCarried 95 = .ok (.iconst 0, 1) := by decide +kernel
theorem dX7_isCarried_96 : decode cX7_isCarried 96 = .ok (.ireturn, 1) := by decide +kernel
theorem dX7_isCarried_97 : decode cX7_isCarried 97 = .ok (.iconst 4, 1) := by decide +kernel
theorem dX7_isCarried_98 : decode cX7_isCarried 98 = .ok (.iload 4, 2) := by decide +kernel
theorem dX7_isCarried_100 : decode cX7_isCarried 100 = .ok (.imul, 1) := by decide +kernel
theorem dX7_isCarried_101 : decode cX7_isCarried 101 = .ok (.iload 5, 2) := by decide +kernel
theorem dX7_isCarried_103 : decode cX7_isCarried 103 = .ok (.if_icmp .le 7, 3) := by decide +kernel
theorem dX7_isCarried_106 : decode cX7_isCarried 106 = .ok (.iconst 1, 1) := by decide +kernel
theorem dX7_isCarried_107 : decode cX7_isCarried 107 = .ok (.goto 4, 3) := by decide +kernel
theorem dX7_isCarried_110 : decode cX7_isCarried 110 = .ok (.iconst 0, 1) := by decide +kernel
theorem dX7_isCarried_111 : decode cX7_isCarried 111 = .ok (.ireturn, 1) := by decide +kernel
theorem dX7_isCarried_112 : decode cX7_isCarried 112 = .ok (.iconst 0, 1) := by decide +kernel
theorem dX7_isCarried_113 : decode cX7_isCarried 113 = .ok (.ireturn, 1) := by decide +kernel
theorem dX7_settleAppeal_0 : decode cX7_settleAppeal 0 = .ok (.aload_n 0, 1) := by decide +kernel
theorem dX7_settleAppeal_1 : decode cX7_settleAppeal 1 = .ok (.iload_n 1, 1) := by decide +kernel
theorem dX7_settleAppeal_2 : decode cX7_settleAppeal 2 = .ok (.invokevirtual 120, 3) := by decide +kernel
theorem dX7_settleAppeal_5 : decode cX7_settleAppeal 5 = .ok (.ifCond .eq 34, 3) := by decide +kernel
theorem dX7_settleAppeal_8 : decode cX7_settleAppeal 8 = .ok (.aload_n 0, 1) := by decide +kernel
theorem dX7_settleAppeal_9 : decode cX7_settleAppeal 9 = .ok (.getfield 22, 3) := by decide +kernel
theorem dX7_settleAppeal_12 : decode cX7_settleAppeal 12 = .ok (.iload_n 1, 1) := by decide +kernel
theorem dX7_settleAppeal_13 : decode cX7_settleAppeal 13 = .ok (.iconst 1, 1) := by decide +kernel
theorem dX7_settleAppeal_14 : decode cX7_settleAppeal 14 = .ok (.bastore, 1) := by decide +kernel
theorem dX7_settleAppeal_15 : decode cX7_settleAppeal 15 = .ok (.aload_n 0, 1) := by decide +kernel
theorem dX7_settleAppeal_16 : decode cX7_settleAppeal 16 = .ok (.getfield 18, 3) := by decide +kernel
theorem dX7_settleAppeal_19 : decode cX7_settleAppeal 19 = .ok (.iload_n 1, 1) := by decide +kernel
theorem dX7_settleAppeal_20 : decode cX7_settleAppeal 20 = .ok (.aload_n 0, 1) := by decide +kernel
theorem dX7_settleAppeal_21 : decode cX7_settleAppeal 21 = .ok (.getfield 18, 3) := by decide +kernel
theorem dX7_settleAppeal_24 : decode cX7_settleAppeal 24 = .ok (.iload_n 1, 1) := by decide +kernel
theorem dX7_settleAppeal_25 : decode cX7_settleAppeal 25 = .ok (.baload, 1) := by decide +kernel
theorem dX7_settleAppeal_26 : decode cX7_settleAppeal 26 = .ok (.ifCond .ne 7, 3) := by decide +kernel
theorem dX7_settleAppeal_29 : decode cX7_settleAppeal 29 = .ok (.iload_n 2, 1) := by decide +kernel
theorem dX7_settleAppeal_30 : decode cX7_settleAppeal 30 = .ok (.ifCond .eq 7, 3) := by decide +kernel
theorem dX7_settleAppeal_33 : decode cX7_settleAppeal 33 = .ok (.iconst 1, 1) := by decide +kernel
theorem dX7_settleAppeal_34 : decode cX7_settleAppeal 34 = .ok (.goto 4, 3) := by decide +kernel
theorem dX7_settleAppeal_37 : decode cX7_settleAppeal 37 = .ok (.iconst 0, 1) := by decide +kernel
theorem dX7_settleAppeal_38 : decode cX7_settleAppeal 38 = .ok (.bastore, 1) := by decide +kernel
theorem dX7_settleAppeal_39 : decode cX7_settleAppeal 39 = .ok (.return_, 1) := by decide +kernel
theorem dX7_carryOut_0 : decode cX7_carryOut 0 = .ok (.iload_n 1, 1) := by decide +kernel
theorem dX7_carryOut_1 : decode cX7_carryOut 1 = .ok (.tableswitch 138 0 6 #[43, 55, 67, 77, 96, 114, 122], 43) := by decide +kernel
theorem dX7_carryOut_44 : decode cX7_carryOut 44 = .ok (.aload_n 0, 1) := by decide +kernel
theorem dX7_carryOut_45 : decode cX7_carryOut 45 = .ok (.getfield 54, 3) := by decide +kernel
theorem dX7_carryOut_48 : decode cX7_carryOut 48 = .ok (.iload_n 2, 1) := by decide +kernel
theorem dX7_carryOut_49 : decode cX7_carryOut 49 = .ok (.iload_n 3, 1) := by decide +kernel
theorem dX7_carryOut_50 : decode cX7_carryOut 50 = .ok (.invokevirtual 271, 3) := by decide +kernel
theorem dX7_carryOut_53 : decode cX7_carryOut 53 = .ok (.goto 86, 3) := by decide +kernel
theorem dX7_carryOut_56 : decode cX7_carryOut 56 = .ok (.aload_n 0, 1) := by decide +kernel
theorem dX7_carryOut_57 : decode cX7_carryOut 57 = .ok (.getfield 54, 3) := by decide +kernel
theorem dX7_carryOut_60 : decode cX7_carryOut 60 = .ok (.iload_n 2, 1) := by decide +kernel
theorem dX7_carryOut_61 : decode cX7_carryOut 61 = .ok (.iload_n 3, 1) := by decide +kernel
theorem dX7_carryOut_62 : decode cX7_carryOut 62 = .ok (.invokevirtual 275, 3) := by decide +kernel
theorem dX7_carryOut_65 : decode cX7_carryOut 65 = .ok (.goto 74, 3) := by decide +kernel
theorem dX7_carryOut_68 : decode cX7_carryOut 68 = .ok (.aload_n 0, 1) := by decide +kernel
theorem dX7_carryOut_69 : decode cX7_carryOut 69 = .ok (.getfield 47, 3) := by decide +kernel
theorem dX7_carryOut_72 : decode cX7_carryOut 72 = .ok (.invokevirtual 278, 3) := by decide +kernel
theorem dX7_carryOut_75 : decode cX7_carryOut 75 = .ok (.goto 64, 3) := by decide +kernel
theorem dX7_carryOut_78 : decode cX7_carryOut 78 = .ok (.aload_n 0, 1) := by decide +kernel
theorem dX7_carryOut_79 : decode cX7_carryOut 79 = .ok (.iload_n 2, 1) := by decide +kernel
theorem dX7_carryOut_80 : decode cX7_carryOut 80 = .ok (.ifCond .le 7, 3) := by decide +kernel
theorem dX7_carryOut_83 : decode cX7_carryOut 83 = .ok (.iload_n 2, 1) := by decide +kernel
theorem dX7_carryOut_84 : decode cX7_carryOut 84 = .ok (.goto 7, 3) := by decide +kernel
theorem dX7_carryOut_87 : decode cX7_carryOut 87 = .ok (.aload_n 0, 1) := by decide +kernel
theorem dX7_carryOut_88 : decode cX7_carryOut 88 = .ok (.getfield 85, 3) := by decide +kernel
theorem dX7_carryOut_91 : decode cX7_carryOut 91 = .ok (.putfield 85, 3) := by decide +kernel
theorem dX7_carryOut_94 : decode cX7_carryOut 94 = .ok (.goto 45, 3) := by decide +kernel
theorem dX7_carryOut_97 : decode cX7_carryOut 97 = .ok (.aload_n 0, 1) := by decide +kernel
theorem dX7_carryOut_98 : decode cX7_carryOut 98 = .ok (.getfield 54, 3) := by decide +kernel
theorem dX7_carryOut_101 : decode cX7_carryOut 101 = .ok (.invokevirtual 68, 3) := by decide +kernel
theorem dX7_carryOut_104 : decode cX7_carryOut 104 = .ok (.aload_n 0, 1) := by decide +kernel
theorem dX7_carryOut_105 : decode cX7_carryOut 105 = .ok (.getfield 47, 3) := by decide +kernel
theorem dX7_carryOut_108 : decode cX7_carryOut 108 = .ok (.iconst 0, 1) := by decide +kernel
theorem dX7_carryOut_109 : decode cX7_carryOut 109 = .ok (.putfield 64, 3) := by decide +kernel
theorem dX7_carryOut_112 : decode cX7_carryOut 112 = .ok (.goto 27, 3) := by decide +kernel
theorem dX7_carryOut_115 : decode cX7_carryOut 115 = .ok (.aload_n 0, 1) := by decide +kernel
theorem dX7_carryOut_116 : decode cX7_carryOut 116 = .ok (.iload_n 2, 1) := by decide +kernel
theorem dX7_carryOut_117 : decode cX7_carryOut 117 = .ok (.putfield 86, 3) := by decide +kernel
theorem dX7_carryOut_120 : decode cX7_carryOut 120 = .ok (.goto 19, 3) := by decide +kernel
theorem dX7_carryOut_123 : decode cX7_carryOut 123 = .ok (.aload_n 0, 1) := by decide +kernel
theorem dX7_carryOut_124 : decode cX7_carryOut 124 = .ok (.iconst 1, 1) := by decide +kernel
theorem dX7_carryOut_125 : decode cX7_carryOut 125 = .ok (.putfield 92, 3) := by decide +kernel
theorem dX7_carryOut_128 : decode cX7_carryOut 128 = .ok (.aload_n 0, 1) := by decide +kernel
theorem dX7_carryOut_129 : decode cX7_carryOut 129 = .ok (.getfield 47, 3) := by decide +kernel
theorem dX7_carryOut_132 : decode cX7_carryOut 132 = .ok (.iconst 0, 1) := by decide +kernel
theorem dX7_carryOut_133 : decode cX7_carryOut 133 = .ok (.putfield 64, 3) := by decide +kernel
theorem dX7_carryOut_136 : decode cX7_carryOut 136 = .ok (.goto 3, 3) := by decide +kernel
theorem dX7_carryOut_139 : decode cX7_carryOut 139 = .ok (.return_, 1) := by decide +kernel
theorem dX8_init_0 : decode cX8_init 0 = .ok (.aload_n 0, 1) := by decide +kernel
theorem dX8_init_1 : decode cX8_init 1 = .ok (.invokespecial 3, 3) := by decide +kernel
theorem dX8_init_4 : decode cX8_init 4 = .ok (.aload_n 0, 1) := by decide +kernel
theorem dX8_init_5 : decode cX8_init 5 = .ok (.sipush 600, 3) := by decide +kernel
theorem dX8_init_8 : decode cX8_init 8 = .ok (.newarray .byte, 2) := by decide +kernel
theorem dX8_init_10 : decode cX8_init 10 = .ok (.putfield 9, 3) := by decide +kernel
theorem dX8_init_13 : decode cX8_init 13 = .ok (.return_, 1) := by decide +kernel
theorem dX8_append_0 : decode cX8_append 0 = .ok (.bipush 24, 2) := by decide +kernel
theorem dX8_append_2 : decode cX8_append 2 = .ok (.istore_n 2, 1) := by decide +kernel
theorem dX8_append_3 : decode cX8_append 3 = .ok (.iload_n 2, 1) := by decide +kernel
theorem dX8_append_4 : decode cX8_append 4 = .ok (.ifCond .lt 49, 3) := by decide +kernel
theorem dX8_append_7 : decode cX8_append 7 = .ok (.aload_n 0, 1) := by decide +kernel
theorem dX8_append_8 : decode cX8_append 8 = .ok (.getfield 15, 3) := by decide +kernel
theorem dX8_append_11 : decode cX8_append 11 = .ok (.ifCond .lt 36, 3) := by decide +kernel
theorem dX8_append_14 : decode cX8_append 14 = .ok (.aload_n 0, 1) := by decide +kernel
theorem dX8_append_15 : decode cX8_append 15 = .ok (.getfield 15, 3) := by decide +kernel
theorem dX8_append_18 : decode cX8_append 18 = .ok (.sipush 600, 3) := by decide +kernel
theorem dX8_append_21 : decode cX8_append 21 = .ok (.if_icmp .ge 26, 3) := by decide +kernel
theorem dX8_append_24 : decode cX8_append 24 = .ok (.aload_n 0, 1) := by decide +kernel
theorem dX8_append_25 : decode cX8_append 25 = .ok (.getfield 9, 3) := by decide +kernel
theorem dX8_append_28 : decode cX8_append 28 = .ok (.aload_n 0, 1) := by decide +kernel
theorem dX8_append_29 : decode cX8_append 29 = .ok (.getfield 15, 3) := by decide +kernel
theorem dX8_append_32 : decode cX8_append 32 = .ok (.iload_n 1, 1) := by decide +kernel
theorem dX8_append_33 : decode cX8_append 33 = .ok (.iload_n 2, 1) := by decide +kernel
theorem dX8_append_34 : decode cX8_append 34 = .ok (.iushr, 1) := by decide +kernel
theorem dX8_append_35 : decode cX8_append 35 = .ok (.i2b, 1) := by decide +kernel
theorem dX8_append_36 : decode cX8_append 36 = .ok (.bastore, 1) := by decide +kernel
theorem dX8_append_37 : decode cX8_append 37 = .ok (.aload_n 0, 1) := by decide +kernel
theorem dX8_append_38 : decode cX8_append 38 = .ok (.dup, 1) := by decide +kernel
theorem dX8_append_39 : decode cX8_append 39 = .ok (.getfield 15, 3) := by decide +kernel
theorem dX8_append_42 : decode cX8_append 42 = .ok (.iconst 1, 1) := by decide +kernel
theorem dX8_append_43 : decode cX8_append 43 = .ok (.iadd, 1) := by decide +kernel
theorem dX8_append_44 : decode cX8_append 44 = .ok (.putfield 15, 3) := by decide +kernel
theorem dX8_append_47 : decode cX8_append 47 = .ok (.iinc 2 (-8), 3) := by decide +kernel
theorem dX8_append_50 : decode cX8_append 50 = .ok (.goto (-47), 3) := by decide +kernel
theorem dX8_append_53 : decode cX8_append 53 = .ok (.return_, 1) := by decide +kernel
theorem dX8_byteAt_0 : decode cX8_byteAt 0 = .ok (.iload_n 1, 1) := by decide +kernel
theorem dX8_byteAt_1 : decode cX8_byteAt 1 = .ok (.ifCond .lt 31, 3) := by decide +kernel
theorem dX8_byteAt_4 : decode cX8_byteAt 4 = .ok (.iload_n 1, 1) := by decide +kernel
theorem dX8_byteAt_5 : decode cX8_byteAt 5 = .ok (.aload_n 0, 1) := by decide +kernel
theorem dX8_byteAt_6 : decode cX8_byteAt 6 = .ok (.getfield 15, 3) := by decide +kernel
theorem dX8_byteAt_9 : decode cX8_byteAt 9 = .ok (.if_icmp .ge 23, 3) := by decide +kernel
theorem dX8_byteAt_12 : decode cX8_byteAt 12 = .ok (.iload_n 1, 1) := by decide +kernel
theorem dX8_byteAt_13 : decode cX8_byteAt 13 = .ok (.sipush 600, 3) := by decide +kernel
theorem dX8_byteAt_16 : decode cX8_byteAt 16 = .ok (.if_icmp .ge 16, 3) := by decide +kernel
theorem dX8_byteAt_19 : decode cX8_byteAt 19 = .ok (.aload_n 0, 1) := by decide +kernel
theorem dX8_byteAt_20 : decode cX8_byteAt 20 = .ok (.getfield 9, 3) := by decide +kernel
theorem dX8_byteAt_23 : decode cX8_byteAt 23 = .ok (.iload_n 1, 1) := by decide +kernel
theorem dX8_byteAt_24 : decode cX8_byteAt 24 = .ok (.baload, 1) := by decide +kernel
theorem dX8_byteAt_25 : decode cX8_byteAt 25 = .ok (.sipush 255, 3) := by decide +kernel
theorem dX8_byteAt_28 : decode cX8_byteAt 28 = .ok (.iand, 1) := by decide +kernel
theorem dX8_byteAt_29 : decode cX8_byteAt 29 = .ok (.goto 4, 3) := by decide +kernel
theorem dX8_byteAt_32 : decode cX8_byteAt 32 = .ok (.iconst (-1), 1) := by decide +kernel
theorem dX8_byteAt_33 : decode cX8_byteAt 33 = .ok (.ireturn, 1) := by decide +kernel
theorem dX9_init_0 : decode cX9_init 0 = .ok (.aload_n 0, 1) := by decide +kernel
theorem dX9_init_1 : decode cX9_init 1 = .ok (.invokespecial 3, 3) := by decide +kernel
theorem dX9_init_4 : decode cX9_init 4 = .ok (.aload_n 0, 1) := by decide +kernel
theorem dX9_init_5 : decode cX9_init 5 = .ok (.new 9, 3) := by decide +kernel
theorem dX9_init_8 : decode cX9_init 8 = .ok (.dup, 1) := by decide +kernel
theorem dX9_init_9 : decode cX9_init 9 = .ok (.invokespecial 11, 3) := by decide +kernel
theorem dX9_init_12 : decode cX9_init 12 = .ok (.putfield 12, 3) := by decide +kernel
theorem dX9_init_15 : decode cX9_init 15 = .ok (.aload_n 0, 1) := by decide +kernel
theorem dX9_init_16 : decode cX9_init 16 = .ok (.new 16, 3) := by decide +kernel
theorem dX9_init_19 : decode cX9_init 19 = .ok (.dup, 1) := by decide +kernel
theorem dX9_init_20 : decode cX9_init 20 = .ok (.invokespecial 18, 3) := by decide +kernel
theorem dX9_init_23 : decode cX9_init 23 = .ok (.putfield 19, 3) := by decide +kernel
theorem dX9_init_26 : decode cX9_init 26 = .ok (.aload_n 0, 1) := by decide +kernel
theorem dX9_init_27 : decode cX9_init 27 = .ok (.new 16, 3) := by decide +kernel
theorem dX9_init_30 : decode cX9_init 30 = .ok (.dup, 1) := by decide +kernel
theorem dX9_init_31 : decode cX9_init 31 = .ok (.invokespecial 18, 3) := by decide +kernel
theorem dX9_init_34 : decode cX9_init 34 = .ok (.putfield 23, 3) := by decide +kernel
theorem dX9_init_37 : decode cX9_init 37 = .ok (.aload_n 0, 1) := by decide +kernel
theorem dX9_init_38 : decode cX9_init 38 = .ok (.new 26, 3) := by decide +kernel
theorem dX9_init_41 : decode cX9_init 41 = .ok (.dup, 1) := by decide +kernel
theorem dX9_init_42 : decode cX9_init 42 = .ok (.aload_n 0, 1) := by decide +kernel
theorem dX9_init_43 : decode cX9_init 43 = .ok (.getfield 12, 3) := by decide +kernel
theorem dX9_init_46 : decode cX9_init 46 = .ok (.aload_n 0, 1) := by decide +kernel
theorem dX9_init_47 : decode cX9_init 47 = .ok (.getfield 23, 3) := by decide +kernel
theorem dX9_init_50 : decode cX9_init 50 = .ok (.invokespecial 28, 3) := by decide +kernel
theorem dX9_init_53 : decode cX9_init 53 = .ok (.putfield 31, 3) := by decide +kernel
theorem dX9_init_56 : decode cX9_init 56 = .ok (.aload_n 0, 1) := by decide +kernel
theorem dX9_init_57 : decode cX9_init 57 = .ok (.bipush 24, 2) := by decide +kernel
theorem dX9_init_59 : decode cX9_init 59 = .ok (.newarray .int, 2) := by decide +kernel
theorem dX9_init_61 : decode cX9_init 61 = .ok (.putfield 35, 3) := by decide +kernel
theorem dX9_init_64 : decode cX9_init 64 = .ok (.aload_n 0, 1) := by decide +kernel
theorem dX9_init_65 : decode cX9_init 65 = .ok (.new 39, 3) := by decide +kernel
theorem dX9_init_68 : decode cX9_init 68 = .ok (.dup, 1) := by decide +kernel
theorem dX9_init_69 : decode cX9_init 69 = .ok (.invokespecial 41, 3) := by decide +kernel
theorem dX9_init_72 : decode cX9_init 72 = .ok (.putfield 42, 3) := by decide +kernel
theorem dX9_init_75 : decode cX9_init 75 = .ok (.aload_n 0, 1) := by decide +kernel
theorem dX9_init_76 : decode cX9_init 76 = .ok (.new 46, 3) := by decide +kernel
theorem dX9_init_79 : decode cX9_init 79 = .ok (.dup, 1) := by decide +kernel
theorem dX9_init_80 : decode cX9_init 80 = .ok (.aload_n 0, 1) := by decide +kernel
theorem dX9_init_81 : decode cX9_init 81 = .ok (.getfield 19, 3) := by decide +kernel
theorem dX9_init_84 : decode cX9_init 84 = .ok (.aload_n 0, 1) := by decide +kernel
theorem dX9_init_85 : decode cX9_init 85 = .ok (.getfield 35, 3) := by decide +kernel
theorem dX9_init_88 : decode cX9_init 88 = .ok (.aload_n 0, 1) := by decide +kernel
theorem dX9_init_89 : decode cX9_init 89 = .ok (.getfield 42, 3) := by decide +kernel
theorem dX9_init_92 : decode cX9_init 92 = .ok (.invokespecial 48, 3) := by decide +kernel
theorem dX9_init_95 : decode cX9_init 95 = .ok (.putfield 51, 3) := by decide +kernel
theorem dX9_init_98 : decode cX9_init 98 = .ok (.aload_n 0, 1) := by decide +kernel
theorem dX9_init_99 : decode cX9_init 99 = .ok (.new 46, 3) := by decide +kernel
theorem dX9_init_102 : decode cX9_init 102 = .ok (.dup, 1) := by decide +kernel
theorem dX9_init_103 : decode cX9_init 103 = .ok (.aload_n 0, 1) := by decide +kernel
theorem dX9_init_104 : decode cX9_init 104 = .ok (.getfield 19, 3) := by decide +kernel
theorem dX9_init_107 : decode cX9_init 107 = .ok (.aload_n 0, 1) := by decide +kernel
theorem dX9_init_108 : decode cX9_init 108 = .ok (.getfield 35, 3) := by decide +kernel
theorem dX9_init_111 : decode cX9_init 111 = .ok (.aload_n 0, 1) := by decide +kernel
theorem dX9_init_112 : decode cX9_init 112 = .ok (.getfield 42, 3) := by decide +kernel
theorem dX9_init_115 : decode cX9_init 115 = .ok (.invokespecial 48, 3) := by decide +kernel
theorem dX9_init_118 : decode cX9_init 118 = .ok (.putfield 55, 3) := by decide +kernel
theorem dX9_init_121 : decode cX9_init 121 = .ok (.aload_n 0, 1) := by decide +kernel
theorem dX9_init_122 : decode cX9_init 122 = .ok (.new 58, 3) := by decide +kernel
theorem dX9_init_125 : decode cX9_init 125 = .ok (.dup, 1) := by decide +kernel
theorem dX9_init_126 : decode cX9_init 126 = .ok (.aload_n 0, 1) := by decide +kernel
theorem dX9_init_127 : decode cX9_init 127 = .ok (.getfield 19, 3) := by decide +kernel
theorem dX9_init_130 : decode cX9_init 130 = .ok (.aload_n 0, 1) := by decide +kernel
theorem dX9_init_131 : decode cX9_init 131 = .ok (.getfield 35, 3) := by decide +kernel
theorem dX9_init_134 : decode cX9_init 134 = .ok (.invokespecial 60, 3) := by decide +kernel
theorem dX9_init_137 : decode cX9_init 137 = .ok (.putfield 63, 3) := by decide +kernel
theorem dX9_init_140 : decode cX9_init 140 = .ok (.aload_n 0, 1) := by decide +kernel
theorem dX9_init_141 : decode cX9_init 141 = .ok (.new 67, 3) := by decide +kernel
theorem dX9_init_144 : decode cX9_init 144 = .ok (.dup, 1) := by decide +kernel
theorem dX9_init_145 : decode cX9_init 145 = .ok (.aload_n 0, 1) := by decide +kernel
theorem dX9_init_146 : decode cX9_init 146 = .ok (.getfield 35, 3) := by decide +kernel
theorem dX9_init_149 : decode cX9_init 149 = .ok (.invokespecial 69, 3) := by decide +kernel
theorem dX9_init_152 : decode cX9_init 152 = .ok (.putfield 72, 3) := by decide +kernel
theorem dX9_init_155 : decode cX9_init 155 = .ok (.return_, 1) := by decide +kernel
theorem dX9_feed_0 : decode cX9_feed 0 = .ok (.aload_n 0, 1) := by decide +kernel
theorem dX9_feed_1 : decode cX9_feed 1 = .ok (.getfield 12, 3) := by decide +kernel
theorem dX9_feed_4 : decode cX9_feed 4 = .ok (.getfield 76, 3) := by decide +kernel
theorem dX9_feed_7 : decode cX9_feed 7 = .ok (.bipush 20, 2) := by decide +kernel
theorem dX9_feed_9 : decode cX9_feed 9 = .ok (.iadd, 1) := by decide +kernel
theorem dX9_feed_10 : decode cX9_feed 10 = .ok (.sipush 600, 3) := by decide +kernel
theorem dX9_feed_13 : decode cX9_feed 13 = .ok (.if_icmp .le 5, 3) := by decide +kernel
theorem dX9_feed_16 : decode cX9_feed 16 = .ok (.iconst (-1), 1) := by decide +kernel
theorem dX9_feed_17 : decode cX9_feed 17 = .ok (.ireturn, 1) := by decide +kernel
theorem dX9_feed_18 : decode cX9_feed 18 = .ok (.aload_n 0, 1) := by decide +kernel
theorem dX9_feed_19 : decode cX9_feed 19 = .ok (.getfield 12, 3) := by decide +kernel
theorem dX9_feed_22 : decode cX9_feed 22 = .ok (.iload_n 1, 1) := by decide +kernel
theorem dX9_feed_23 : decode cX9_feed 23 = .ok (.invokevirtual 80, 3) := by decide +kernel
theorem dX9_feed_26 : decode cX9_feed 26 = .ok (.aload_n 0, 1) := by decide +kernel
theorem dX9_feed_27 : decode cX9_feed 27 = .ok (.getfield 12, 3) := by decide +kernel
theorem dX9_feed_30 : decode cX9_feed 30 = .ok (.iload_n 2, 1) := by decide +kernel
theorem dX9_feed_31 : decode cX9_feed 31 = .ok (.invokevirtual 80, 3) := by decide +kernel
theorem dX9_feed_34 : decode cX9_feed 34 = .ok (.aload_n 0, 1) := by decide +kernel
theorem dX9_feed_35 : decode cX9_feed 35 = .ok (.getfield 12, 3) := by decide +kernel
theorem dX9_feed_38 : decode cX9_feed 38 = .ok (.iload_n 3, 1) := by decide +kernel
theorem dX9_feed_39 : decode cX9_feed 39 = .ok (.invokevirtual 80, 3) := by decide +kernel
theorem dX9_feed_42 : decode cX9_feed 42 = .ok (.aload_n 0, 1) := by decide +kernel
theorem dX9_feed_43 : decode cX9_feed 43 = .ok (.getfield 12, 3) := by decide +kernel
theorem dX9_feed_46 : decode cX9_feed 46 = .ok (.iload 4, 2) := by decide +kernel
theorem dX9_feed_48 : decode cX9_feed 48 = .ok (.invokevirtual 80, 3) := by decide +kernel
theorem dX9_feed_51 : decode cX9_feed 51 = .ok (.aload_n 0, 1) := by decide +kernel
theorem dX9_feed_52 : decode cX9_feed 52 = .ok (.getfield 12, 3) := by decide +kernel
theorem dX9_feed_55 : decode cX9_feed 55 = .ok (.iload 5, 2) := by decide +kernel
theorem dX9_feed_57 : decode cX9_feed 57 = .ok (.invokevirtual 80, 3) := by decide +kernel
theorem dX9_feed_60 : decode cX9_feed 60 = .ok (.aload_n 0, 1) := by decide +kernel
theorem dX9_feed_61 : decode cX9_feed 61 = .ok (.getfield 12, 3) := by decide +kernel
theorem dX9_feed_64 : decode cX9_feed 64 = .ok (.getfield 76, 3) := by decide +kernel
theorem dX9_feed_67 : decode cX9_feed 67 = .ok (.ireturn, 1) := by decide +kernel
theorem dX9_end_0 : decode cX9_end 0 = .ok (.iload_n 1, 1) := by decide +kernel
theorem dX9_end_1 : decode cX9_end 1 = .ok (.ifCond .lt 14, 3) := by decide +kernel
theorem dX9_end_4 : decode cX9_end 4 = .ok (.iload_n 1, 1) := by decide +kernel
theorem dX9_end_5 : decode cX9_end 5 = .ok (.aload_n 0, 1) := by decide +kernel
theorem dX9_end_6 : decode cX9_end 6 = .ok (.getfield 12, 3) := by decide +kernel
theorem dX9_end_9 : decode cX9_end 9 = .ok (.getfield 76, 3) := by decide +kernel
theorem dX9_end_12 : decode cX9_end 12 = .ok (.if_icmp .le 5, 3) := by decide +kernel
theorem dX9_end_15 : decode cX9_end 15 = .ok (.iconst (-1), 1) := by decide +kernel
theorem dX9_end_16 : decode cX9_end 16 = .ok (.ireturn, 1) := by decide +kernel
theorem dX9_end_17 : decode cX9_end 17 = .ok (.aload_n 0, 1) := by decide +kernel
theorem dX9_end_18 : decode cX9_end 18 = .ok (.getfield 12, 3) := by decide +kernel
theorem dX9_end_21 : decode cX9_end 21 = .ok (.iload_n 1, 1) := by decide +kernel
theorem dX9_end_22 : decode cX9_end 22 = .ok (.putfield 76, 3) := by decide +kernel
theorem dX9_end_25 : decode cX9_end 25 = .ok (.iload_n 1, 1) := by decide +kernel
theorem dX9_end_26 : decode cX9_end 26 = .ok (.ireturn, 1) := by decide +kernel
theorem dX9_rules_0 : decode cX9_rules 0 = .ok (.aload_n 0, 1) := by decide +kernel
theorem dX9_rules_1 : decode cX9_rules 1 = .ok (.getfield 42, 3) := by decide +kernel
theorem dX9_rules_4 : decode cX9_rules 4 = .ok (.getfield 84, 3) := by decide +kernel
theorem dX9_rules_7 : decode cX9_rules 7 = .ok (.ifCond .le 5, 3) := by decide +kernel
theorem dX9_rules_10 : decode cX9_rules 10 = .ok (.iconst (-1), 1) := by decide +kernel
theorem dX9_rules_11 : decode cX9_rules 11 = .ok (.ireturn, 1) := by decide +kernel
theorem dX9_rules_12 : decode cX9_rules 12 = .ok (.aload_n 0, 1) := by decide +kernel
theorem dX9_rules_13 : decode cX9_rules 13 = .ok (.getfield 31, 3) := by decide +kernel
theorem dX9_rules_16 : decode cX9_rules 16 = .ok (.invokevirtual 87, 3) := by decide +kernel
theorem dX9_rules_19 : decode cX9_rules 19 = .ok (.istore_n 1, 1) := by decide +kernel
theorem dX9_rules_20 : decode cX9_rules 20 = .ok (.aload_n 0, 1) := by decide +kernel
theorem dX9_rules_21 : decode cX9_rules 21 = .ok (.getfield 12, 3) := by decide +kernel
theorem dX9_rules_24 : decode cX9_rules 24 = .ok (.iconst 0, 1) := by decide +kernel
theorem dX9_rules_25 : decode cX9_rules 25 = .ok (.putfield 76, 3) := by decide +kernel
theorem dX9_rules_28 : decode cX9_rules 28 = .ok (.iload_n 1, 1) := by decide +kernel
theorem dX9_rules_29 : decode cX9_rules 29 = .ok (.ifCond .ne 21, 3) := by decide +kernel
theorem dX9_rules_32 : decode cX9_rules 32 = .ok (.aload_n 0, 1) := by decide +kernel
theorem dX9_rules_33 : decode cX9_rules 33 = .ok (.getfield 19, 3) := by decide +kernel
theorem dX9_rules_36 : decode cX9_rules 36 = .ok (.aload_n 0, 1) := by decide +kernel
theorem dX9_rules_37 : decode cX9_rules 37 = .ok (.getfield 23, 3) := by decide +kernel
theorem dX9_rules_40 : decode cX9_rules 40 = .ok (.invokevirtual 91, 3) := by decide +kernel
theorem dX9_rules_43 : decode cX9_rules 43 = .ok (.aload_n 0, 1) := by decide +kernel
theorem dX9_rules_44 : decode cX9_rules 44 = .ok (.getfield 51, 3) := by decide +kernel
theorem dX9_rules_47 : decode cX9_rules 47 = .ok (.invokevirtual 95, 3) := by decide +kernel
theorem dX9_rules_50 : decode cX9_rules 50 = .ok (.iload_n 1, 1) := by decide +kernel
theorem dX9_rules_51 : decode cX9_rules 51 = .ok (.ireturn, 1) := by decide +kernel
theorem dX9_school_0 : decode cX9_school 0 = .ok (.iload_n 1, 1) := by decide +kernel
theorem dX9_school_1 : decode cX9_school 1 = .ok (.invokestatic 98, 3) := by decide +kernel
theorem dX9_school_4 : decode cX9_school 4 = .ok (.ifCond .eq 20, 3) := by decide +kernel
theorem dX9_school_7 : decode cX9_school 7 = .ok (.iload_n 2, 1) := by decide +kernel
theorem dX9_school_8 : decode cX9_school 8 = .ok (.invokestatic 102, 3) := by decide +kernel
theorem dX9_school_11 : decode cX9_school 11 = .ok (.ifCond .eq 13, 3) := by decide +kernel
theorem dX9_school_14 : decode cX9_school 14 = .ok (.aload_n 0, 1) := by decide +kernel
theorem dX9_school_15 : decode cX9_school 15 = .ok (.getfield 42, 3) := by decide +kernel
theorem dX9_school_18 : decode cX9_school 18 = .ok (.getfield 84, 3) := by decide +kernel
theorem dX9_school_21 : decode cX9_school 21 = .ok (.ifCond .le 5, 3) := by decide +kernel
theorem dX9_school_24 : decode cX9_school 24 = .ok (.iconst 0, 1) := by decide +kernel
theorem dX9_school_25 : decode cX9_school 25 = .ok (.ireturn, 1) := by decide +kernel
theorem dX9_school_26 : decode cX9_school 26 = .ok (.aload_n 0, 1) := by decide +kernel
theorem dX9_school_27 : decode cX9_school 27 = .ok (.getfield 35, 3) := by decide +kernel
theorem dX9_school_30 : decode cX9_school 30 = .ok (.iload_n 1, 1) := by decide +kernel
theorem dX9_school_31 : decode cX9_school 31 = .ok (.iload_n 2, 1) := by decide +kernel
theorem dX9_school_32 : decode cX9_school 32 = .ok (.iastore, 1) := by decide +kernel
theorem dX9_school_33 : decode cX9_school 33 = .ok (.iconst 1, 1) := by decide +kernel
theorem dX9_school_34 : decode cX9_school 34 = .ok (.ireturn, 1) := by decide +kernel
theorem dX9_act_0 : decode cX9_act 0 = .ok (.iload_n 1, 1) := by decide +kernel
theorem dX9_act_1 : decode cX9_act 1 = .ok (.ifCond .lt 22, 3) := by decide +kernel
theorem dX9_act_4 : decode cX9_act 4 = .ok (.iload_n 1, 1) := by decide +kernel
theorem dX9_act_5 : decode cX9_act 5 = .ok (.bipush 9, 2) := by decide +kernel
theorem dX9_act_7 : decode cX9_act 7 = .ok (.if_icmp .gt 16, 3) := by decide +kernel
theorem dX9_act_10 : decode cX9_act 10 = .ok (.aload_n 0, 1) := by decide +kernel
theorem dX9_act_11 : decode cX9_act 11 = .ok (.getfield 42, 3) := by decide +kernel
theorem dX9_act_14 : decode cX9_act 14 = .ok (.getfield 84, 3) := by decide +kernel
theorem dX9_act_17 : decode cX9_act 17 = .ok (.sipush 300, 3) := by decide +kernel
theorem dX9_act_20 : decode cX9_act 20 = .ok (.if_icmp .lt 5, 3) := by decide +kernel
theorem dX9_act_23 : decode cX9_act 23 = .ok (.iconst (-1), 1) := by decide +kernel
theorem dX9_act_24 : decode cX9_act 24 = .ok (.ireturn, 1) := by decide +kernel
theorem dX9_act_25 : decode cX9_act 25 = .ok (.aload_n 0, 1) := by decide +kernel
theorem dX9_act_26 : decode cX9_act 26 = .ok (.getfield 42, 3) := by decide +kernel
theorem dX9_act_29 : decode cX9_act 29 = .ok (.getfield 84, 3) := by decide +kernel
theorem dX9_act_32 : decode cX9_act 32 = .ok (.istore 6, 2) := by decide +kernel
theorem dX9_act_34 : decode cX9_act 34 = .ok (.aload_n 0, 1) := by decide +kernel
theorem dX9_act_35 : decode cX9_act 35 = .ok (.getfield 42, 3) := by decide +kernel
theorem dX9_act_38 : decode cX9_act 38 = .ok (.iload_n 1, 1) := by decide +kernel
theorem dX9_act_39 : decode cX9_act 39 = .ok (.iload_n 2, 1) := by decide +kernel
theorem dX9_act_40 : decode cX9_act 40 = .ok (.iload_n 3, 1) := by decide +kernel
theorem dX9_act_41 : decode cX9_act 41 = .ok (.iload 4, 2) := by decide +kernel
theorem dX9_act_43 : decode cX9_act 43 = .ok (.iload 5, 2) := by decide +kernel
theorem dX9_act_45 : decode cX9_act 45 = .ok (.invokevirtual 105, 3) := by decide +kernel
theorem dX9_act_48 : decode cX9_act 48 = .ok (.aload_n 0, 1) := by decide +kernel
theorem dX9_act_49 : decode cX9_act 49 = .ok (.getfield 51, 3) := by decide +kernel
theorem dX9_act_52 : decode cX9_act 52 = .ok (.iload 6, 2) := by decide +kernel
theorem dX9_act_54 : decode cX9_act 54 = .ok (.iconst 0, 1) := by decide +kernel
theorem dX9_act_55 : decode cX9_act 55 = .ok (.invokevirtual 109, 3) := by decide +kernel
theorem dX9_act_58 : decode cX9_act 58 = .ok (.pop, 1) := by decide +kernel
theorem dX9_act_59 : decode cX9_act 59 = .ok (.aload_n 0, 1) := by decide +kernel
theorem dX9_act_60 : decode cX9_act 60 = .ok (.getfield 51, 3) := by decide +kernel
theorem dX9_act_63 : decode cX9_act 63 = .ok (.iload 6, 2) := by decide +kernel
theorem dX9_act_65 : decode cX9_act 65 = .ok (.invokevirtual 113, 3) := by decide +kernel
theorem dX9_act_68 : decode cX9_act 68 = .ok (.ireturn, 1) := by decide +kernel
theorem dX9_ruling_0 : decode cX9_ruling 0 = .ok (.aload_n 0, 1) := by decide +kernel
theorem dX9_ruling_1 : decode cX9_ruling 1 = .ok (.getfield 51, 3) := by decide +kernel
theorem dX9_ruling_4 : decode cX9_ruling 4 = .ok (.iload_n 1, 1) := by decide +kernel
theorem dX9_ruling_5 : decode cX9_ruling 5 = .ok (.invokevirtual 113, 3) := by decide +kernel
theorem dX9_ruling_8 : decode cX9_ruling 8 = .ok (.ireturn, 1) := by decide +kernel
theorem dX9_passed_0 : decode cX9_passed 0 = .ok (.aload_n 0, 1) := by decide +kernel
theorem dX9_passed_1 : decode cX9_passed 1 = .ok (.getfield 51, 3) := by decide +kernel
theorem dX9_passed_4 : decode cX9_passed 4 = .ok (.iload_n 1, 1) := by decide +kernel
theorem dX9_passed_5 : decode cX9_passed 5 = .ok (.invokevirtual 117, 3) := by decide +kernel
theorem dX9_passed_8 : decode cX9_passed 8 = .ok (.ireturn, 1) := by decide +kernel
theorem dX9_state_0 : decode cX9_state 0 = .ok (.aload_n 0, 1) := by decide +kernel
theorem dX9_state_1 : decode cX9_state 1 = .ok (.getfield 51, 3) := by decide +kernel
theorem dX9_state_4 : decode cX9_state 4 = .ok (.iload_n 1, 1) := by decide +kernel
theorem dX9_state_5 : decode cX9_state 5 = .ok (.invokevirtual 120, 3) := by decide +kernel
theorem dX9_state_8 : decode cX9_state 8 = .ok (.ireturn, 1) := by decide +kernel
theorem dX9_pending_0 : decode cX9_pending 0 = .ok (.aload_n 0, 1) := by decide +kernel
theorem dX9_pending_1 : decode cX9_pending 1 = .ok (.getfield 51, 3) := by decide +kernel
theorem dX9_pending_4 : decode cX9_pending 4 = .ok (.getfield 123, 3) := by decide +kernel
theorem dX9_pending_7 : decode cX9_pending 7 = .ok (.iload_n 1, 1) := by decide +kernel
theorem dX9_pending_8 : decode cX9_pending 8 = .ok (.iload_n 2, 1) := by decide +kernel
theorem dX9_pending_9 : decode cX9_pending 9 = .ok (.invokevirtual 127, 3) := by decide +kernel
theorem dX9_pending_12 : decode cX9_pending 12 = .ok (.ireturn, 1) := by decide +kernel
theorem dX9_clause_0 : decode cX9_clause 0 = .ok (.aload_n 0, 1) := by decide +kernel
theorem dX9_clause_1 : decode cX9_clause 1 = .ok (.getfield 51, 3) := by decide +kernel
theorem dX9_clause_4 : decode cX9_clause 4 = .ok (.getfield 132, 3) := by decide +kernel
theorem dX9_clause_7 : decode cX9_clause 7 = .ok (.iload_n 1, 1) := by decide +kernel
theorem dX9_clause_8 : decode cX9_clause 8 = .ok (.invokevirtual 136, 3) := by decide +kernel
theorem dX9_clause_11 : decode cX9_clause 11 = .ok (.istore_n 3, 1) := by decide +kernel
theorem dX9_clause_12 : decode cX9_clause 12 = .ok (.iload_n 2, 1) := by decide +kernel
theorem dX9_clause_13 : decode cX9_clause 13 = .ok (.ifCond .ne 5, 3) := by decide +kernel
theorem dX9_clause_16 : decode cX9_clause 16 = .ok (.iload_n 3, 1) := by decide +kernel
theorem dX9_clause_17 : decode cX9_clause 17 = .ok (.ireturn, 1) := by decide +kernel
theorem dX9_clause_18 : decode cX9_clause 18 = .ok (.iload_n 2, 1) := by decide +kernel
theorem dX9_clause_19 : decode cX9_clause 19 = .ok (.iconst 1, 1) := by decide +kernel
theorem dX9_clause_20 : decode cX9_clause 20 = .ok (.if_icmp .ne 17, 3) := by decide +kernel
theorem dX9_clause_23 : decode cX9_clause 23 = .ok (.aload_n 0, 1) := by decide +kernel
theorem dX9_clause_24 : decode cX9_clause 24 = .ok (.getfield 51, 3) := by decide +kernel
theorem dX9_clause_27 : decode cX9_clause 27 = .ok (.getfield 132, 3) := by decide +kernel
theorem dX9_clause_30 : decode cX9_clause 30 = .ok (.iload_n 3, 1) := by decide +kernel
theorem dX9_clause_31 : decode cX9_clause 31 = .ok (.invokevirtual 141, 3) := by decide +kernel
theorem dX9_clause_34 : decode cX9_clause 34 = .ok (.goto 4, 3) := by decide +kernel
theorem dX9_clause_37 : decode cX9_clause 37 = .ok (.iconst (-1), 1) := by decide +kernel
theorem dX9_clause_38 : decode cX9_clause 38 = .ok (.ireturn, 1) := by decide +kernel
theorem dX9_place_0 : decode cX9_place 0 = .ok (.aload_n 0, 1) := by decide +kernel
theorem dX9_place_1 : decode cX9_place 1 = .ok (.getfield 51, 3) := by decide +kernel
theorem dX9_place_4 : decode cX9_place 4 = .ok (.getfield 132, 3) := by decide +kernel
theorem dX9_place_7 : decode cX9_place 7 = .ok (.iload_n 1, 1) := by decide +kernel
theorem dX9_place_8 : decode cX9_place 8 = .ok (.invokevirtual 144, 3) := by decide +kernel
theorem dX9_place_11 : decode cX9_place 11 = .ok (.ireturn, 1) := by decide +kernel
theorem dX9_speeches_0 : decode cX9_speeches 0 = .ok (.iload_n 1, 1) := by decide +kernel
theorem dX9_speeches_1 : decode cX9_speeches 1 = .ok (.invokestatic 98, 3) := by decide +kernel
theorem dX9_speeches_4 : decode cX9_speeches 4 = .ok (.ifCond .eq 18, 3) := by decide +kernel
theorem dX9_speeches_7 : decode cX9_speeches 7 = .ok (.aload_n 0, 1) := by decide +kernel
theorem dX9_speeches_8 : decode cX9_speeches 8 = .ok (.getfield 51, 3) := by decide +kernel
theorem dX9_speeches_11 : decode cX9_speeches 11 = .ok (.getfield 147, 3) := by decide +kernel
theorem dX9_speeches_14 : decode cX9_speeches 14 = .ok (.getfield 150, 3) := by decide +kernel
theorem dX9_speeches_17 : decode cX9_speeches 17 = .ok (.iload_n 1, 1) := by decide +kernel
theorem dX9_speeches_18 : decode cX9_speeches 18 = .ok (.iaload, 1) := by decide +kernel
theorem dX9_speeches_19 : decode cX9_speeches 19 = .ok (.goto 4, 3) := by decide +kernel
theorem dX9_speeches_22 : decode cX9_speeches 22 = .ok (.iconst (-1), 1) := by decide +kernel
theorem dX9_speeches_23 : decode cX9_speeches 23 = .ok (.ireturn, 1) := by decide +kernel
theorem dX9_waits_0 : decode cX9_waits 0 = .ok (.iload_n 1, 1) := by decide +kernel
theorem dX9_waits_1 : decode cX9_waits 1 = .ok (.ifCond .lt 17, 3) := by decide +kernel
theorem dX9_waits_4 : decode cX9_waits 4 = .ok (.iload_n 1, 1) := by decide +kernel
theorem dX9_waits_5 : decode cX9_waits 5 = .ok (.aload_n 0, 1) := by decide +kernel
theorem dX9_waits_6 : decode cX9_waits 6 = .ok (.getfield 51, 3) := by decide +kernel
theorem dX9_waits_9 : decode cX9_waits 9 = .ok (.getfield 147, 3) := by decide +kernel
theorem dX9_waits_12 : decode cX9_waits 12 = .ok (.getfield 153, 3) := by decide +kernel
theorem dX9_waits_15 : decode cX9_waits 15 = .ok (.if_icmp .lt 5, 3) := by decide +kernel
theorem dX9_waits_18 : decode cX9_waits 18 = .ok (.iconst (-1), 1) := by decide +kernel
theorem dX9_waits_19 : decode cX9_waits 19 = .ok (.ireturn, 1) := by decide +kernel
theorem dX9_waits_20 : decode cX9_waits 20 = .ok (.aload_n 0, 1) := by decide +kernel
theorem dX9_waits_21 : decode cX9_waits 21 = .ok (.getfield 63, 3) := by decide +kernel
theorem dX9_waits_24 : decode cX9_waits 24 = .ok (.aload_n 0, 1) := by decide +kernel
theorem dX9_waits_25 : decode cX9_waits 25 = .ok (.getfield 51, 3) := by decide +kernel
theorem dX9_waits_28 : decode cX9_waits 28 = .ok (.getfield 147, 3) := by decide +kernel
theorem dX9_waits_31 : decode cX9_waits 31 = .ok (.invokevirtual 156, 3) := by decide +kernel
theorem dX9_waits_34 : decode cX9_waits 34 = .ok (.iconst 0, 1) := by decide +kernel
theorem dX9_waits_35 : decode cX9_waits 35 = .ok (.istore_n 2, 1) := by decide +kernel
theorem dX9_waits_36 : decode cX9_waits 36 = .ok (.iload_n 2, 1) := by decide +kernel
theorem dX9_waits_37 : decode cX9_waits 37 = .ok (.iload_n 1, 1) := by decide +kernel
theorem dX9_waits_38 : decode cX9_waits 38 = .ok (.if_icmp .gt 23, 3) := by decide +kernel
theorem dX9_waits_41 : decode cX9_waits 41 = .ok (.aload_n 0, 1) := by decide +kernel
theorem dX9_waits_42 : decode cX9_waits 42 = .ok (.getfield 63, 3) := by decide +kernel
theorem dX9_waits_45 : decode cX9_waits 45 = .ok (.aload_n 0, 1) := by decide +kernel
theorem dX9_waits_46 : decode cX9_waits 46 = .ok (.getfield 51, 3) := by decide +kernel
theorem dX9_waits_49 : decode cX9_waits 49 = .ok (.getfield 159, 3) := by decide +kernel
theorem dX9_waits_52 : decode cX9_waits 52 = .ok (.invokevirtual 162, 3) := by decide +kernel
theorem dX9_waits_55 : decode cX9_waits 55 = .ok (.iinc 2 1, 3) := by decide +kernel
theorem dX9_waits_58 : decode cX9_waits 58 = .ok (.goto (-22), 3) := by decide +kernel
theorem dX9_waits_61 : decode cX9_waits 61 = .ok (.aload_n 0, 1) := by decide +kernel
theorem dX9_waits_62 : decode cX9_waits 62 = .ok (.getfield 63, 3) := by decide +kernel
theorem dX9_waits_65 : decode cX9_waits 65 = .ok (.getfield 165, 3) := by decide +kernel
theorem dX9_waits_68 : decode cX9_waits 68 = .ok (.ireturn, 1) := by decide +kernel
theorem dX9_overturned_0 : decode cX9_overturned 0 = .ok (.aload_n 0, 1) := by decide +kernel
theorem dX9_overturned_1 : decode cX9_overturned 1 = .ok (.getfield 51, 3) := by decide +kernel
theorem dX9_overturned_4 : decode cX9_overturned 4 = .ok (.iload_n 1, 1) := by decide +kernel
theorem dX9_overturned_5 : decode cX9_overturned 5 = .ok (.invokevirtual 168, 3) := by decide +kernel
theorem dX9_overturned_8 : decode cX9_overturned 8 = .ok (.ireturn, 1) := by decide +kernel
theorem dX9_beside_0 : decode cX9_beside 0 = .ok (.iload_n 1, 1) := by decide +kernel
theorem dX9_beside_1 : decode cX9_beside 1 = .ok (.ifCond .lt 14, 3) := by decide +kernel
theorem dX9_beside_4 : decode cX9_beside 4 = .ok (.iload_n 1, 1) := by decide +kernel
theorem dX9_beside_5 : decode cX9_beside 5 = .ok (.aload_n 0, 1) := by decide +kernel
theorem dX9_beside_6 : decode cX9_beside 6 = .ok (.getfield 42, 3) := by decide +kernel
theorem dX9_beside_9 : decode cX9_beside 9 = .ok (.getfield 84, 3) := by decide +kernel
theorem dX9_beside_12 : decode cX9_beside 12 = .ok (.if_icmp .lt 5, 3) := by decide +kernel
theorem dX9_beside_15 : decode cX9_beside 15 = .ok (.iconst (-1), 1) := by decide +kernel
theorem dX9_beside_16 : decode cX9_beside 16 = .ok (.ireturn, 1) := by decide +kernel
theorem dX9_beside_17 : decode cX9_beside 17 = .ok (.aload_n 0, 1) := by decide +kernel
theorem dX9_beside_18 : decode cX9_beside 18 = .ok (.getfield 55, 3) := by decide +kernel
theorem dX9_beside_21 : decode cX9_beside 21 = .ok (.invokevirtual 95, 3) := by decide +kernel
theorem dX9_beside_24 : decode cX9_beside 24 = .ok (.iconst 0, 1) := by decide +kernel
theorem dX9_beside_25 : decode cX9_beside 25 = .ok (.istore_n 3, 1) := by decide +kernel
theorem dX9_beside_26 : decode cX9_beside 26 = .ok (.iload_n 3, 1) := by decide +kernel
theorem dX9_beside_27 : decode cX9_beside 27 = .ok (.aload_n 0, 1) := by decide +kernel
theorem dX9_beside_28 : decode cX9_beside 28 = .ok (.getfield 42, 3) := by decide +kernel
theorem dX9_beside_31 : decode cX9_beside 31 = .ok (.getfield 84, 3) := by decide +kernel
theorem dX9_beside_34 : decode cX9_beside 34 = .ok (.if_icmp .ge 32, 3) := by decide +kernel
theorem dX9_beside_37 : decode cX9_beside 37 = .ok (.aload_n 0, 1) := by decide +kernel
theorem dX9_beside_38 : decode cX9_beside 38 = .ok (.getfield 55, 3) := by decide +kernel
theorem dX9_beside_41 : decode cX9_beside 41 = .ok (.iload_n 3, 1) := by decide +kernel
theorem dX9_beside_42 : decode cX9_beside 42 = .ok (.iload_n 3, 1) := by decide +kernel
theorem dX9_beside_43 : decode cX9_beside 43 = .ok (.iload_n 1, 1) := by decide +kernel
theorem dX9_beside_44 : decode cX9_beside 44 = .ok (.if_icmp .ne 7, 3) := by decide +kernel
theorem dX9_beside_47 : decode cX9_beside 47 = .ok (.iconst 1, 1) := by decide +kernel
theorem dX9_beside_48 : decode cX9_beside 48 = .ok (.goto 4, 3) := by decide +kernel
theorem dX9_beside_51 : decode cX9_beside 51 = .ok (.iconst 0, 1) := by decide +kernel
theorem dX9_beside_52 : decode cX9_beside 52 = .ok (.invokevirtual 109, 3) := by decide +kernel
theorem dX9_beside_55 : decode cX9_beside 55 = .ok (.ifCond .ne 5, 3) := by decide +kernel
theorem dX9_beside_58 : decode cX9_beside 58 = .ok (.iconst (-1), 1) := by decide +kernel
theorem dX9_beside_59 : decode cX9_beside 59 = .ok (.ireturn, 1) := by decide +kernel
theorem dX9_beside_60 : decode cX9_beside 60 = .ok (.iinc 3 1, 3) := by decide +kernel
theorem dX9_beside_63 : decode cX9_beside 63 = .ok (.goto (-37), 3) := by decide +kernel
theorem dX9_beside_66 : decode cX9_beside 66 = .ok (.iload_n 2, 1) := by decide +kernel
theorem dX9_beside_67 : decode cX9_beside 67 = .ok (.sipush 400, 3) := by decide +kernel
theorem dX9_beside_70 : decode cX9_beside 70 = .ok (.if_icmp .lt 29, 3) := by decide +kernel
theorem dX9_beside_73 : decode cX9_beside 73 = .ok (.aload_n 0, 1) := by decide +kernel
theorem dX9_beside_74 : decode cX9_beside 74 = .ok (.getfield 55, 3) := by decide +kernel
theorem dX9_beside_77 : decode cX9_beside 77 = .ok (.getfield 132, 3) := by decide +kernel
theorem dX9_beside_80 : decode cX9_beside 80 = .ok (.aload_n 0, 1) := by decide +kernel
theorem dX9_beside_81 : decode cX9_beside 81 = .ok (.getfield 55, 3) := by decide +kernel
theorem dX9_beside_84 : decode cX9_beside 84 = .ok (.getfield 132, 3) := by decide +kernel
theorem dX9_beside_87 : decode cX9_beside 87 = .ok (.iload_n 2, 1) := by decide +kernel
theorem dX9_beside_88 : decode cX9_beside 88 = .ok (.sipush 400, 3) := by decide +kernel
theorem dX9_beside_91 : decode cX9_beside 91 = .ok (.isub, 1) := by decide +kernel
theorem dX9_beside_92 : decode cX9_beside 92 = .ok (.invokevirtual 136, 3) := by decide +kernel
theorem dX9_beside_95 : decode cX9_beside 95 = .ok (.invokevirtual 141, 3) := by decide +kernel
theorem dX9_beside_98 : decode cX9_beside 98 = .ok (.ireturn, 1) := by decide +kernel
theorem dX9_beside_99 : decode cX9_beside 99 = .ok (.iload_n 2, 1) := by decide +kernel
theorem dX9_beside_100 : decode cX9_beside 100 = .ok (.bipush 11, 2) := by decide +kernel
theorem dX9_beside_102 : decode cX9_beside 102 = .ok (.if_icmp .lt 15, 3) := by decide +kernel
theorem dX9_beside_105 : decode cX9_beside 105 = .ok (.aload_n 0, 1) := by decide +kernel
theorem dX9_beside_106 : decode cX9_beside 106 = .ok (.getfield 55, 3) := by decide +kernel
theorem dX9_beside_109 : decode cX9_beside 109 = .ok (.iload_n 2, 1) := by decide +kernel
theorem dX9_beside_110 : decode cX9_beside 110 = .ok (.bipush 11, 2) := by decide +kernel
theorem dX9_beside_112 : decode cX9_beside 112 = .ok (.isub, 1) := by decide +kernel
end
section
theorem dX9_beside_113 : decode cX9_beside 113 = .ok (.invokevirtual 113, 3) := by decide +kernel
theorem dX9_beside_116 : decode cX9_beside 116 = .ok (.ireturn, 1) := by decide +kernel
theorem dX9_beside_117 : decode cX9_beside 117 = .ok (.aload_n 0, 1) := by decide +kernel
theorem dX9_beside_118 : decode cX9_beside 118 = .ok (.getfield 55, 3) := by decide +kernel
theorem dX9_beside_121 : decode cX9_beside 121 = .ok (.iload_n 2, 1) := by decide +kernel
theorem dX9_beside_122 : decode cX9_beside 122 = .ok (.invokevirtual 120, 3) := by decide +kernel
theorem dX9_beside_125 : decode cX9_beside 125 = .ok (.ireturn, 1) := by decide +kernel
theorem dX9_score_0 : decode cX9_score 0 = .ok (.aload_n 0, 1) := by decide +kernel
theorem dX9_score_1 : decode cX9_score 1 = .ok (.getfield 72, 3) := by decide +kernel
theorem dX9_score_4 : decode cX9_score 4 = .ok (.iload_n 1, 1) := by decide +kernel
theorem dX9_score_5 : decode cX9_score 5 = .ok (.iload_n 2, 1) := by decide +kernel
theorem dX9_score_6 : decode cX9_score 6 = .ok (.iload_n 3, 1) := by decide +kernel
theorem dX9_score_7 : decode cX9_score 7 = .ok (.iload 4, 2) := by decide +kernel
theorem dX9_score_9 : decode cX9_score 9 = .ok (.invokevirtual 171, 3) := by decide +kernel
theorem dX9_score_12 : decode cX9_score 12 = .ok (.ireturn, 1) := by decide +kernel
theorem dX9_mean_0 : decode cX9_mean 0 = .ok (.aload_n 0, 1) := by decide +kernel
theorem dX9_mean_1 : decode cX9_mean 1 = .ok (.getfield 72, 3) := by decide +kernel
theorem dX9_mean_4 : decode cX9_mean 4 = .ok (.iload_n 1, 1) := by decide +kernel
theorem dX9_mean_5 : decode cX9_mean 5 = .ok (.invokevirtual 175, 3) := by decide +kernel
theorem dX9_mean_8 : decode cX9_mean 8 = .ok (.ireturn, 1) := by decide +kernel
theorem dX9_award_0 : decode cX9_award 0 = .ok (.aload_n 0, 1) := by decide +kernel
theorem dX9_award_1 : decode cX9_award 1 = .ok (.getfield 72, 3) := by decide +kernel
theorem dX9_award_4 : decode cX9_award 4 = .ok (.iload_n 1, 1) := by decide +kernel
theorem dX9_award_5 : decode cX9_award 5 = .ok (.invokevirtual 178, 3) := by decide +kernel
theorem dX9_award_8 : decode cX9_award 8 = .ok (.ireturn, 1) := by decide +kernel
theorem dX9_told_0 : decode cX9_told 0 = .ok (.iload_n 1, 1) := by decide +kernel
theorem dX9_told_1 : decode cX9_told 1 = .ok (.ifCond .lt 19, 3) := by decide +kernel
theorem dX9_told_4 : decode cX9_told 4 = .ok (.iload_n 1, 1) := by decide +kernel
theorem dX9_told_5 : decode cX9_told 5 = .ok (.bipush 8, 2) := by decide +kernel
theorem dX9_told_7 : decode cX9_told 7 = .ok (.if_icmp .ge 13, 3) := by decide +kernel
theorem dX9_told_10 : decode cX9_told 10 = .ok (.aload_n 0, 1) := by decide +kernel
theorem dX9_told_11 : decode cX9_told 11 = .ok (.getfield 19, 3) := by decide +kernel
theorem dX9_told_14 : decode cX9_told 14 = .ok (.getfield 181, 3) := by decide +kernel
theorem dX9_told_17 : decode cX9_told 17 = .ok (.iload_n 1, 1) := by decide +kernel
theorem dX9_told_18 : decode cX9_told 18 = .ok (.iaload, 1) := by decide +kernel
theorem dX9_told_19 : decode cX9_told 19 = .ok (.ireturn, 1) := by decide +kernel
theorem dX9_told_20 : decode cX9_told 20 = .ok (.iload_n 1, 1) := by decide +kernel
theorem dX9_told_21 : decode cX9_told 21 = .ok (.bipush 20, 2) := by decide +kernel
theorem dX9_told_23 : decode cX9_told 23 = .ok (.if_icmp .lt 22, 3) := by decide +kernel
theorem dX9_told_26 : decode cX9_told 26 = .ok (.iload_n 1, 1) := by decide +kernel
theorem dX9_told_27 : decode cX9_told 27 = .ok (.bipush 28, 2) := by decide +kernel
theorem dX9_told_29 : decode cX9_told 29 = .ok (.if_icmp .ge 16, 3) := by decide +kernel
theorem dX9_told_32 : decode cX9_told 32 = .ok (.aload_n 0, 1) := by decide +kernel
theorem dX9_told_33 : decode cX9_told 33 = .ok (.getfield 19, 3) := by decide +kernel
theorem dX9_told_36 : decode cX9_told 36 = .ok (.getfield 184, 3) := by decide +kernel
theorem dX9_told_39 : decode cX9_told 39 = .ok (.iload_n 1, 1) := by decide +kernel
theorem dX9_told_40 : decode cX9_told 40 = .ok (.bipush 20, 2) := by decide +kernel
theorem dX9_told_42 : decode cX9_told 42 = .ok (.isub, 1) := by decide +kernel
theorem dX9_told_43 : decode cX9_told 43 = .ok (.iaload, 1) := by decide +kernel
theorem dX9_told_44 : decode cX9_told 44 = .ok (.ireturn, 1) := by decide +kernel
theorem dX9_told_45 : decode cX9_told 45 = .ok (.iload_n 1, 1) := by decide +kernel
theorem dX9_told_46 : decode cX9_told 46 = .ok (.lookupswitch 106 #[(10, 50), (11, 58), (12, 66), (13, 82), (30, 98)], 50) := by decide +kernel
theorem dX9_told_96 : decode cX9_told 96 = .ok (.aload_n 0, 1) := by decide +kernel
theorem dX9_told_97 : decode cX9_told 97 = .ok (.getfield 19, 3) := by decide +kernel
theorem dX9_told_100 : decode cX9_told 100 = .ok (.getfield 187, 3) := by decide +kernel
theorem dX9_told_103 : decode cX9_told 103 = .ok (.ireturn, 1) := by decide +kernel
theorem dX9_told_104 : decode cX9_told 104 = .ok (.aload_n 0, 1) := by decide +kernel
theorem dX9_told_105 : decode cX9_told 105 = .ok (.getfield 19, 3) := by decide +kernel
theorem dX9_told_108 : decode cX9_told 108 = .ok (.getfield 188, 3) := by decide +kernel
theorem dX9_told_111 : decode cX9_told 111 = .ok (.ireturn, 1) := by decide +kernel
theorem dX9_told_112 : decode cX9_told 112 = .ok (.aload_n 0, 1) := by decide +kernel
theorem dX9_told_113 : decode cX9_told 113 = .ok (.getfield 19, 3) := by decide +kernel
theorem dX9_told_116 : decode cX9_told 116 = .ok (.getfield 191, 3) := by decide +kernel
theorem dX9_told_119 : decode cX9_told 119 = .ok (.ifCond .eq 7, 3) := by decide +kernel
theorem dX9_told_122 : decode cX9_told 122 = .ok (.iconst 1, 1) := by decide +kernel
theorem dX9_told_123 : decode cX9_told 123 = .ok (.goto 4, 3) := by decide +kernel
theorem dX9_told_126 : decode cX9_told 126 = .ok (.iconst 0, 1) := by decide +kernel
theorem dX9_told_127 : decode cX9_told 127 = .ok (.ireturn, 1) := by decide +kernel
theorem dX9_told_128 : decode cX9_told 128 = .ok (.aload_n 0, 1) := by decide +kernel
theorem dX9_told_129 : decode cX9_told 129 = .ok (.getfield 19, 3) := by decide +kernel
theorem dX9_told_132 : decode cX9_told 132 = .ok (.getfield 195, 3) := by decide +kernel
theorem dX9_told_135 : decode cX9_told 135 = .ok (.ifCond .eq 7, 3) := by decide +kernel
theorem dX9_told_138 : decode cX9_told 138 = .ok (.iconst 1, 1) := by decide +kernel
theorem dX9_told_139 : decode cX9_told 139 = .ok (.goto 4, 3) := by decide +kernel
theorem dX9_told_142 : decode cX9_told 142 = .ok (.iconst 0, 1) := by decide +kernel
theorem dX9_told_143 : decode cX9_told 143 = .ok (.ireturn, 1) := by decide +kernel
theorem dX9_told_144 : decode cX9_told 144 = .ok (.aload_n 0, 1) := by decide +kernel
theorem dX9_told_145 : decode cX9_told 145 = .ok (.getfield 12, 3) := by decide +kernel
theorem dX9_told_148 : decode cX9_told 148 = .ok (.getfield 76, 3) := by decide +kernel
theorem dX9_told_151 : decode cX9_told 151 = .ok (.ireturn, 1) := by decide +kernel
theorem dX9_told_152 : decode cX9_told 152 = .ok (.iconst (-1), 1) := by decide +kernel
theorem dX9_told_153 : decode cX9_told 153 = .ok (.ireturn, 1) := by decide +kernel
theorem dX9_isMember_0 : decode cX9_isMember 0 = .ok (.iload_n 0, 1) := by decide +kernel
theorem dX9_isMember_1 : decode cX9_isMember 1 = .ok (.ifCond .lt 13, 3) := by decide +kernel
theorem dX9_isMember_4 : decode cX9_isMember 4 = .ok (.iload_n 0, 1) := by decide +kernel
theorem dX9_isMember_5 : decode cX9_isMember 5 = .ok (.bipush 24, 2) := by decide +kernel
theorem dX9_isMember_7 : decode cX9_isMember 7 = .ok (.if_icmp .ge 7, 3) := by decide +kernel
theorem dX9_isMember_10 : decode cX9_isMember 10 = .ok (.iconst 1, 1) := by decide +kernel
theorem dX9_isMember_11 : decode cX9_isMember 11 = .ok (.goto 4, 3) := by decide +kernel
theorem dX9_isMember_14 : decode cX9_isMember 14 = .ok (.iconst 0, 1) := by decide +kernel
theorem dX9_isMember_15 : decode cX9_isMember 15 = .ok (.ireturn, 1) := by decide +kernel
theorem dX9_isSchool_0 : decode cX9_isSchool 0 = .ok (.iload_n 0, 1) := by decide +kernel
theorem dX9_isSchool_1 : decode cX9_isSchool 1 = .ok (.ifCond .lt 13, 3) := by decide +kernel
theorem dX9_isSchool_4 : decode cX9_isSchool 4 = .ok (.iload_n 0, 1) := by decide +kernel
theorem dX9_isSchool_5 : decode cX9_isSchool 5 = .ok (.bipush 8, 2) := by decide +kernel
theorem dX9_isSchool_7 : decode cX9_isSchool 7 = .ok (.if_icmp .ge 7, 3) := by decide +kernel
theorem dX9_isSchool_10 : decode cX9_isSchool 10 = .ok (.iconst 1, 1) := by decide +kernel
theorem dX9_isSchool_11 : decode cX9_isSchool 11 = .ok (.goto 4, 3) := by decide +kernel
theorem dX9_isSchool_14 : decode cX9_isSchool 14 = .ok (.iconst 0, 1) := by decide +kernel
theorem dX9_isSchool_15 : decode cX9_isSchool 15 = .ok (.ireturn, 1) := by decide +kernel
theorem dX9_isKind_0 : decode cX9_isKind 0 = .ok (.iload_n 0, 1) := by decide +kernel
theorem dX9_isKind_1 : decode cX9_isKind 1 = .ok (.ifCond .lt 13, 3) := by decide +kernel
theorem dX9_isKind_4 : decode cX9_isKind 4 = .ok (.iload_n 0, 1) := by decide +kernel
theorem dX9_isKind_5 : decode cX9_isKind 5 = .ok (.bipush 8, 2) := by decide +kernel
theorem dX9_isKind_7 : decode cX9_isKind 7 = .ok (.if_icmp .ge 7, 3) := by decide +kernel
theorem dX9_isKind_10 : decode cX9_isKind 10 = .ok (.iconst 1, 1) := by decide +kernel
theorem dX9_isKind_11 : decode cX9_isKind 11 = .ok (.goto 4, 3) := by decide +kernel
theorem dX9_isKind_14 : decode cX9_isKind 14 = .ok (.iconst 0, 1) := by decide +kernel
theorem dX9_isKind_15 : decode cX9_isKind 15 = .ok (.ireturn, 1) := by decide +kernel
theorem dX9_isActNumber_0 : decode cX9_isActNumber 0 = .ok (.iload_n 0, 1) := by decide +kernel
theorem dX9_isActNumber_1 : decode cX9_isActNumber 1 = .ok (.ifCond .lt 14, 3) := by decide +kernel
theorem dX9_isActNumber_4 : decode cX9_isActNumber 4 = .ok (.iload_n 0, 1) := by decide +kernel
theorem dX9_isActNumber_5 : decode cX9_isActNumber 5 = .ok (.sipush 300, 3) := by decide +kernel
theorem dX9_isActNumber_8 : decode cX9_isActNumber 8 = .ok (.if_icmp .ge 7, 3) := by decide +kernel
theorem dX9_isActNumber_11 : decode cX9_isActNumber 11 = .ok (.iconst 1, 1) := by decide +kernel
theorem dX9_isActNumber_12 : decode cX9_isActNumber 12 = .ok (.goto 4, 3) := by decide +kernel
theorem dX9_isActNumber_15 : decode cX9_isActNumber 15 = .ok (.iconst 0, 1) := by decide +kernel
theorem dX9_isActNumber_16 : decode cX9_isActNumber 16 = .ok (.ireturn, 1) := by decide +kernel
theorem dJ6_bitCount_0f7a4_0 : decode cJ6_bitCount_0f7a4 0 = .ok (.iload_n 0, 1) := by decide +kernel
theorem dJ6_bitCount_0f7a4_1 : decode cJ6_bitCount_0f7a4 1 = .ok (.iload_n 0, 1) := by decide +kernel
theorem dJ6_bitCount_0f7a4_2 : decode cJ6_bitCount_0f7a4 2 = .ok (.iconst 1, 1) := by decide +kernel
theorem dJ6_bitCount_0f7a4_3 : decode cJ6_bitCount_0f7a4 3 = .ok (.iushr, 1) := by decide +kernel
theorem dJ6_bitCount_0f7a4_4 : decode cJ6_bitCount_0f7a4 4 = .ok (.ldc_w 265, 3) := by decide +kernel
theorem dJ6_bitCount_0f7a4_7 : decode cJ6_bitCount_0f7a4 7 = .ok (.iand, 1) := by decide +kernel
theorem dJ6_bitCount_0f7a4_8 : decode cJ6_bitCount_0f7a4 8 = .ok (.isub, 1) := by decide +kernel
theorem dJ6_bitCount_0f7a4_9 : decode cJ6_bitCount_0f7a4 9 = .ok (.istore_n 0, 1) := by decide +kernel
theorem dJ6_bitCount_0f7a4_10 : decode cJ6_bitCount_0f7a4 10 = .ok (.iload_n 0, 1) := by decide +kernel
theorem dJ6_bitCount_0f7a4_11 : decode cJ6_bitCount_0f7a4 11 = .ok (.ldc_w 266, 3) := by decide +kernel
theorem dJ6_bitCount_0f7a4_14 : decode cJ6_bitCount_0f7a4 14 = .ok (.iand, 1) := by decide +kernel
theorem dJ6_bitCount_0f7a4_15 : decode cJ6_bitCount_0f7a4 15 = .ok (.iload_n 0, 1) := by decide +kernel
theorem dJ6_bitCount_0f7a4_16 : decode cJ6_bitCount_0f7a4 16 = .ok (.iconst 2, 1) := by decide +kernel
theorem dJ6_bitCount_0f7a4_17 : decode cJ6_bitCount_0f7a4 17 = .ok (.iushr, 1) := by decide +kernel
theorem dJ6_bitCount_0f7a4_18 : decode cJ6_bitCount_0f7a4 18 = .ok (.ldc_w 266, 3) := by decide +kernel
theorem dJ6_bitCount_0f7a4_21 : decode cJ6_bitCount_0f7a4 21 = .ok (.iand, 1) := by decide +kernel
theorem dJ6_bitCount_0f7a4_22 : decode cJ6_bitCount_0f7a4 22 = .ok (.iadd, 1) := by decide +kernel
theorem dJ6_bitCount_0f7a4_23 : decode cJ6_bitCount_0f7a4 23 = .ok (.istore_n 0, 1) := by decide +kernel
theorem dJ6_bitCount_0f7a4_24 : decode cJ6_bitCount_0f7a4 24 = .ok (.iload_n 0, 1) := by decide +kernel
theorem dJ6_bitCount_0f7a4_25 : decode cJ6_bitCount_0f7a4 25 = .ok (.iload_n 0, 1) := by decide +kernel
theorem dJ6_bitCount_0f7a4_26 : decode cJ6_bitCount_0f7a4 26 = .ok (.iconst 4, 1) := by decide +kernel
theorem dJ6_bitCount_0f7a4_27 : decode cJ6_bitCount_0f7a4 27 = .ok (.iushr, 1) := by decide +kernel
theorem dJ6_bitCount_0f7a4_28 : decode cJ6_bitCount_0f7a4 28 = .ok (.iadd, 1) := by decide +kernel
theorem dJ6_bitCount_0f7a4_29 : decode cJ6_bitCount_0f7a4 29 = .ok (.ldc_w 267, 3) := by decide +kernel
theorem dJ6_bitCount_0f7a4_32 : decode cJ6_bitCount_0f7a4 32 = .ok (.iand, 1) := by decide +kernel
theorem dJ6_bitCount_0f7a4_33 : decode cJ6_bitCount_0f7a4 33 = .ok (.istore_n 0, 1) := by decide +kernel
theorem dJ6_bitCount_0f7a4_34 : decode cJ6_bitCount_0f7a4 34 = .ok (.iload_n 0, 1) := by decide +kernel
theorem dJ6_bitCount_0f7a4_35 : decode cJ6_bitCount_0f7a4 35 = .ok (.iload_n 0, 1) := by decide +kernel
theorem dJ6_bitCount_0f7a4_36 : decode cJ6_bitCount_0f7a4 36 = .ok (.bipush 8, 2) := by decide +kernel
theorem dJ6_bitCount_0f7a4_38 : decode cJ6_bitCount_0f7a4 38 = .ok (.iushr, 1) := by decide +kernel
theorem dJ6_bitCount_0f7a4_39 : decode cJ6_bitCount_0f7a4 39 = .ok (.iadd, 1) := by decide +kernel
theorem dJ6_bitCount_0f7a4_40 : decode cJ6_bitCount_0f7a4 40 = .ok (.istore_n 0, 1) := by decide +kernel
theorem dJ6_bitCount_0f7a4_41 : decode cJ6_bitCount_0f7a4 41 = .ok (.iload_n 0, 1) := by decide +kernel
theorem dJ6_bitCount_0f7a4_42 : decode cJ6_bitCount_0f7a4 42 = .ok (.iload_n 0, 1) := by decide +kernel
theorem dJ6_bitCount_0f7a4_43 : decode cJ6_bitCount_0f7a4 43 = .ok (.bipush 16, 2) := by decide +kernel
theorem dJ6_bitCount_0f7a4_45 : decode cJ6_bitCount_0f7a4 45 = .ok (.iushr, 1) := by decide +kernel
theorem dJ6_bitCount_0f7a4_46 : decode cJ6_bitCount_0f7a4 46 = .ok (.iadd, 1) := by decide +kernel
theorem dJ6_bitCount_0f7a4_47 : decode cJ6_bitCount_0f7a4 47 = .ok (.istore_n 0, 1) := by decide +kernel
theorem dJ6_bitCount_0f7a4_48 : decode cJ6_bitCount_0f7a4 48 = .ok (.iload_n 0, 1) := by decide +kernel
theorem dJ6_bitCount_0f7a4_49 : decode cJ6_bitCount_0f7a4 49 = .ok (.bipush 63, 2) := by decide +kernel
theorem dJ6_bitCount_0f7a4_51 : decode cJ6_bitCount_0f7a4 51 = .ok (.iand, 1) := by decide +kernel
theorem dJ6_bitCount_0f7a4_52 : decode cJ6_bitCount_0f7a4 52 = .ok (.ireturn, 1) := by decide +kernel
theorem dJ9_max_7cf53_0 : decode cJ9_max_7cf53 0 = .ok (.iload_n 0, 1) := by decide +kernel
theorem dJ9_max_7cf53_1 : decode cJ9_max_7cf53 1 = .ok (.iload_n 1, 1) := by decide +kernel
theorem dJ9_max_7cf53_2 : decode cJ9_max_7cf53 2 = .ok (.if_icmp .lt 7, 3) := by decide +kernel
theorem dJ9_max_7cf53_5 : decode cJ9_max_7cf53 5 = .ok (.iload_n 0, 1) := by decide +kernel
theorem dJ9_max_7cf53_6 : decode cJ9_max_7cf53 6 = .ok (.goto 4, 3) := by decide +kernel
theorem dJ9_max_7cf53_9 : decode cJ9_max_7cf53 9 = .ok (.iload_n 1, 1) := by decide +kernel
theorem dJ9_max_7cf53_10 : decode cJ9_max_7cf53 10 = .ok (.ireturn, 1) := by decide +kernel
theorem dJ9_min_7cf53_0 : decode cJ9_min_7cf53 0 = .ok (.iload_n 0, 1) := by decide +kernel
theorem dJ9_min_7cf53_1 : decode cJ9_min_7cf53 1 = .ok (.iload_n 1, 1) := by decide +kernel
theorem dJ9_min_7cf53_2 : decode cJ9_min_7cf53 2 = .ok (.if_icmp .gt 7, 3) := by decide +kernel
theorem dJ9_min_7cf53_5 : decode cJ9_min_7cf53 5 = .ok (.iload_n 0, 1) := by decide +kernel
theorem dJ9_min_7cf53_6 : decode cJ9_min_7cf53 6 = .ok (.goto 4, 3) := by decide +kernel
theorem dJ9_min_7cf53_9 : decode cJ9_min_7cf53 9 = .ok (.iload_n 1, 1) := by decide +kernel
theorem dJ9_min_7cf53_10 : decode cJ9_min_7cf53 10 = .ok (.ireturn, 1) := by decide +kernel
theorem dJ0_length_8abf5_0 : decode cJ0_length_8abf5 0 = .ok (.aload_n 0, 1) := by decide +kernel
theorem dJ0_length_8abf5_1 : decode cJ0_length_8abf5 1 = .ok (.getfield 9, 3) := by decide +kernel
theorem dJ0_length_8abf5_4 : decode cJ0_length_8abf5 4 = .ok (.arraylength, 1) := by decide +kernel
theorem dJ0_length_8abf5_5 : decode cJ0_length_8abf5 5 = .ok (.aload_n 0, 1) := by decide +kernel
theorem dJ0_length_8abf5_6 : decode cJ0_length_8abf5 6 = .ok (.invokevirtual 335, 3) := by decide +kernel
theorem dJ0_length_8abf5_9 : decode cJ0_length_8abf5 9 = .ok (.ishr, 1) := by decide +kernel
theorem dJ0_length_8abf5_10 : decode cJ0_length_8abf5 10 = .ok (.ireturn, 1) := by decide +kernel
theorem dJ0_charAt_5068e_0 : decode cJ0_charAt_5068e 0 = .ok (.aload_n 0, 1) := by decide +kernel
theorem dJ0_charAt_5068e_1 : decode cJ0_charAt_5068e 1 = .ok (.invokevirtual 492, 3) := by decide +kernel
theorem dJ0_charAt_5068e_4 : decode cJ0_charAt_5068e 4 = .ok (.ifCond .eq 12, 3) := by decide +kernel
theorem dJ0_charAt_5068e_7 : decode cJ0_charAt_5068e 7 = .ok (.aload_n 0, 1) := by decide +kernel
theorem dJ0_charAt_5068e_8 : decode cJ0_charAt_5068e 8 = .ok (.getfield 9, 3) := by decide +kernel
theorem dJ0_charAt_5068e_11 : decode cJ0_charAt_5068e 11 = .ok (.iload_n 1, 1) := by decide +kernel
theorem dJ0_charAt_5068e_12 : decode cJ0_charAt_5068e 12 = .ok (.invokestatic 495, 3) := by decide +kernel
theorem dJ0_charAt_5068e_15 : decode cJ0_charAt_5068e 15 = .ok (.ireturn, 1) := by decide +kernel
theorem dJ0_charAt_5068e_16 : decode cJ0_charAt_5068e 16 = .ok (.aload_n 0, 1) := by decide +kernel
theorem dJ0_charAt_5068e_17 : decode cJ0_charAt_5068e 17 = .ok (.getfield 9, 3) := by decide +kernel
theorem dJ0_charAt_5068e_20 : decode cJ0_charAt_5068e 20 = .ok (.iload_n 1, 1) := by decide +kernel
theorem dJ0_charAt_5068e_21 : decode cJ0_charAt_5068e 21 = .ok (.invokestatic 498, 3) := by decide +kernel
theorem dJ0_charAt_5068e_24 : decode cJ0_charAt_5068e 24 = .ok (.ireturn, 1) := by decide +kernel
theorem dJ0_coder_7d493_0 : decode cJ0_coder_7d493 0 = .ok (.getstatic 38, 3) := by decide +kernel
theorem dJ0_coder_7d493_3 : decode cJ0_coder_7d493 3 = .ok (.ifCond .eq 10, 3) := by decide +kernel
theorem dJ0_coder_7d493_6 : decode cJ0_coder_7d493 6 = .ok (.aload_n 0, 1) := by decide +kernel
theorem dJ0_coder_7d493_7 : decode cJ0_coder_7d493 7 = .ok (.getfield 15, 3) := by decide +kernel
theorem dJ0_coder_7d493_10 : decode cJ0_coder_7d493 10 = .ok (.goto 4, 3) := by decide +kernel
theorem dJ0_coder_7d493_13 : decode cJ0_coder_7d493 13 = .ok (.iconst 1, 1) := by decide +kernel
theorem dJ0_coder_7d493_14 : decode cJ0_coder_7d493 14 = .ok (.ireturn, 1) := by decide +kernel
theorem dJ0_isLatin1_aae02_0 : decode cJ0_isLatin1_aae02 0 = .ok (.getstatic 38, 3) := by decide +kernel
theorem dJ0_isLatin1_aae02_3 : decode cJ0_isLatin1_aae02 3 = .ok (.ifCond .eq 14, 3) := by decide +kernel
theorem dJ0_isLatin1_aae02_6 : decode cJ0_isLatin1_aae02 6 = .ok (.aload_n 0, 1) := by decide +kernel
theorem dJ0_isLatin1_aae02_7 : decode cJ0_isLatin1_aae02 7 = .ok (.getfield 15, 3) := by decide +kernel
theorem dJ0_isLatin1_aae02_10 : decode cJ0_isLatin1_aae02 10 = .ok (.ifCond .ne 7, 3) := by decide +kernel
theorem dJ0_isLatin1_aae02_13 : decode cJ0_isLatin1_aae02 13 = .ok (.iconst 1, 1) := by decide +kernel
theorem dJ0_isLatin1_aae02_14 : decode cJ0_isLatin1_aae02 14 = .ok (.goto 4, 3) := by decide +kernel
theorem dJ0_isLatin1_aae02_17 : decode cJ0_isLatin1_aae02 17 = .ok (.iconst 0, 1) := by decide +kernel
theorem dJ0_isLatin1_aae02_18 : decode cJ0_isLatin1_aae02 18 = .ok (.ireturn, 1) := by decide +kernel
theorem dJ0_checkIndex_df160_0 : decode cJ0_checkIndex_df160 0 = .ok (.iload_n 0, 1) := by decide +kernel
theorem dJ0_checkIndex_df160_1 : decode cJ0_checkIndex_df160 1 = .ok (.iload_n 1, 1) := by decide +kernel
theorem dJ0_checkIndex_df160_2 : decode cJ0_checkIndex_df160 2 = .ok (.getstatic 1053, 3) := by decide +kernel
theorem dJ0_checkIndex_df160_5 : decode cJ0_checkIndex_df160 5 = .ok (.invokestatic 1059, 3) := by decide +kernel
theorem dJ0_checkIndex_df160_8 : decode cJ0_checkIndex_df160 8 = .ok (.pop, 1) := by decide +kernel
theorem dJ0_checkIndex_df160_9 : decode cJ0_checkIndex_df160 9 = .ok (.return_, 1) := by decide +kernel
theorem dJ1_charAt_3b067_0 : decode cJ1_charAt_3b067 0 = .ok (.iload_n 1, 1) := by decide +kernel
theorem dJ1_charAt_3b067_1 : decode cJ1_charAt_3b067 1 = .ok (.aload_n 0, 1) := by decide +kernel
theorem dJ1_charAt_3b067_2 : decode cJ1_charAt_3b067 2 = .ok (.arraylength, 1) := by decide +kernel
theorem dJ1_charAt_3b067_3 : decode cJ1_charAt_3b067 3 = .ok (.invokestatic 9, 3) := by decide +kernel
theorem dJ1_charAt_3b067_6 : decode cJ1_charAt_3b067 6 = .ok (.aload_n 0, 1) := by decide +kernel
theorem dJ1_charAt_3b067_7 : decode cJ1_charAt_3b067 7 = .ok (.iload_n 1, 1) := by decide +kernel
theorem dJ1_charAt_3b067_8 : decode cJ1_charAt_3b067 8 = .ok (.baload, 1) := by decide +kernel
theorem dJ1_charAt_3b067_9 : decode cJ1_charAt_3b067 9 = .ok (.sipush 255, 3) := by decide +kernel
theorem dJ1_charAt_3b067_12 : decode cJ1_charAt_3b067 12 = .ok (.iand, 1) := by decide +kernel
theorem dJ1_charAt_3b067_13 : decode cJ1_charAt_3b067 13 = .ok (.i2c, 1) := by decide +kernel
theorem dJ1_charAt_3b067_14 : decode cJ1_charAt_3b067 14 = .ok (.ireturn, 1) := by decide +kernel
theorem dJ2_getChar_3b067_0 : decode cJ2_getChar_3b067 0 = .ok (.getstatic 44, 3) := by decide +kernel
theorem dJ2_getChar_3b067_3 : decode cJ2_getChar_3b067 3 = .ok (.ifCond .ne 25, 3) := by decide +kernel
theorem dJ2_getChar_3b067_6 : decode cJ2_getChar_3b067 6 = .ok (.iload_n 1, 1) := by decide +kernel
theorem dJ2_getChar_3b067_7 : decode cJ2_getChar_3b067 7 = .ok (.ifCond .lt 11, 3) := by decide +kernel
theorem dJ2_getChar_3b067_10 : decode cJ2_getChar_3b067 10 = .ok (.iload_n 1, 1) := by decide +kernel
theorem dJ2_getChar_3b067_11 : decode cJ2_getChar_3b067 11 = .ok (.aload_n 0, 1) := by decide +kernel
theorem dJ2_getChar_3b067_12 : decode cJ2_getChar_3b067 12 = .ok (.invokestatic 48, 3) := by decide +kernel
theorem dJ2_getChar_3b067_15 : decode cJ2_getChar_3b067 15 = .ok (.if_icmp .lt 13, 3) := by decide +kernel
theorem dJ2_getChar_3b067_18 : decode cJ2_getChar_3b067 18 = .ok (.new 52, 3) := by decide +kernel
theorem dJ2_getChar_3b067_21 : decode cJ2_getChar_3b067 21 = .ok (.dup, 1) := by decide +kernel
theorem dJ2_getChar_3b067_22 : decode cJ2_getChar_3b067 22 = .ok (.ldc 54, 2) := by decide +kernel
theorem dJ2_getChar_3b067_24 : decode cJ2_getChar_3b067 24 = .ok (.invokespecial 56, 3) := by decide +kernel
theorem dJ2_getChar_3b067_27 : decode cJ2_getChar_3b067 27 = .ok (.athrow, 1) := by decide +kernel
theorem dJ2_getChar_3b067_28 : decode cJ2_getChar_3b067 28 = .ok (.iload_n 1, 1) := by decide +kernel
theorem dJ2_getChar_3b067_29 : decode cJ2_getChar_3b067 29 = .ok (.iconst 1, 1) := by decide +kernel
theorem dJ2_getChar_3b067_30 : decode cJ2_getChar_3b067 30 = .ok (.ishl, 1) := by decide +kernel
theorem dJ2_getChar_3b067_31 : decode cJ2_getChar_3b067 31 = .ok (.istore_n 1, 1) := by decide +kernel
theorem dJ2_getChar_3b067_32 : decode cJ2_getChar_3b067 32 = .ok (.aload_n 0, 1) := by decide +kernel
theorem dJ2_getChar_3b067_33 : decode cJ2_getChar_3b067 33 = .ok (.iload_n 1, 1) := by decide +kernel
theorem dJ2_getChar_3b067_34 : decode cJ2_getChar_3b067 34 = .ok (.iinc 1 1, 3) := by decide +kernel
theorem dJ2_getChar_3b067_37 : decode cJ2_getChar_3b067 37 = .ok (.baload, 1) := by decide +kernel
theorem dJ2_getChar_3b067_38 : decode cJ2_getChar_3b067 38 = .ok (.sipush 255, 3) := by decide +kernel
theorem dJ2_getChar_3b067_41 : decode cJ2_getChar_3b067 41 = .ok (.iand, 1) := by decide +kernel
theorem dJ2_getChar_3b067_42 : decode cJ2_getChar_3b067 42 = .ok (.getstatic 59, 3) := by decide +kernel
theorem dJ2_getChar_3b067_45 : decode cJ2_getChar_3b067 45 = .ok (.ishl, 1) := by decide +kernel
theorem dJ2_getChar_3b067_46 : decode cJ2_getChar_3b067 46 = .ok (.aload_n 0, 1) := by decide +kernel
theorem dJ2_getChar_3b067_47 : decode cJ2_getChar_3b067 47 = .ok (.iload_n 1, 1) := by decide +kernel
theorem dJ2_getChar_3b067_48 : decode cJ2_getChar_3b067 48 = .ok (.baload, 1) := by decide +kernel
theorem dJ2_getChar_3b067_49 : decode cJ2_getChar_3b067 49 = .ok (.sipush 255, 3) := by decide +kernel
theorem dJ2_getChar_3b067_52 : decode cJ2_getChar_3b067 52 = .ok (.iand, 1) := by decide +kernel
theorem dJ2_getChar_3b067_53 : decode cJ2_getChar_3b067 53 = .ok (.getstatic 63, 3) := by decide +kernel
theorem dJ2_getChar_3b067_56 : decode cJ2_getChar_3b067 56 = .ok (.ishl, 1) := by decide +kernel
theorem dJ2_getChar_3b067_57 : decode cJ2_getChar_3b067 57 = .ok (.ior, 1) := by decide +kernel
theorem dJ2_getChar_3b067_58 : decode cJ2_getChar_3b067 58 = .ok (.i2c, 1) := by decide +kernel
theorem dJ2_getChar_3b067_59 : decode cJ2_getChar_3b067 59 = .ok (.ireturn, 1) := by decide +kernel
theorem dJ2_length_9d52b_0 : decode cJ2_length_9d52b 0 = .ok (.aload_n 0, 1) := by decide +kernel
theorem dJ2_length_9d52b_1 : decode cJ2_length_9d52b 1 = .ok (.arraylength, 1) := by decide +kernel
theorem dJ2_length_9d52b_2 : decode cJ2_length_9d52b 2 = .ok (.iconst 1, 1) := by decide +kernel
theorem dJ2_length_9d52b_3 : decode cJ2_length_9d52b 3 = .ok (.ishr, 1) := by decide +kernel
theorem dJ2_length_9d52b_4 : decode cJ2_length_9d52b 4 = .ok (.ireturn, 1) := by decide +kernel
theorem dJ2_charAt_3b067_0 : decode cJ2_charAt_3b067 0 = .ok (.iload_n 1, 1) := by decide +kernel
theorem dJ2_charAt_3b067_1 : decode cJ2_charAt_3b067 1 = .ok (.aload_n 0, 1) := by decide +kernel
theorem dJ2_charAt_3b067_2 : decode cJ2_charAt_3b067 2 = .ok (.invokestatic 67, 3) := by decide +kernel
theorem dJ2_charAt_3b067_5 : decode cJ2_charAt_3b067 5 = .ok (.aload_n 0, 1) := by decide +kernel
theorem dJ2_charAt_3b067_6 : decode cJ2_charAt_3b067 6 = .ok (.iload_n 1, 1) := by decide +kernel
theorem dJ2_charAt_3b067_7 : decode cJ2_charAt_3b067 7 = .ok (.invokestatic 71, 3) := by decide +kernel
theorem dJ2_charAt_3b067_10 : decode cJ2_charAt_3b067 10 = .ok (.ireturn, 1) := by decide +kernel
theorem dJ2_checkIndex_2214a_0 : decode cJ2_checkIndex_2214a 0 = .ok (.iload_n 0, 1) := by decide +kernel
theorem dJ2_checkIndex_2214a_1 : decode cJ2_checkIndex_2214a 1 = .ok (.aload_n 1, 1) := by decide +kernel
theorem dJ2_checkIndex_2214a_2 : decode cJ2_checkIndex_2214a 2 = .ok (.invokestatic 48, 3) := by decide +kernel
theorem dJ2_checkIndex_2214a_5 : decode cJ2_checkIndex_2214a 5 = .ok (.invokestatic 414, 3) := by decide +kernel
theorem dJ2_checkIndex_2214a_8 : decode cJ2_checkIndex_2214a 8 = .ok (.return_, 1) := by decide +kernel
theorem dJ3_checkIndex_8e157_0 : decode cJ3_checkIndex_8e157 0 = .ok (.iload_n 0, 1) := by decide +kernel
theorem dJ3_checkIndex_8e157_1 : decode cJ3_checkIndex_8e157 1 = .ok (.ifCond .lt 8, 3) := by decide +kernel
theorem dJ3_checkIndex_8e157_4 : decode cJ3_checkIndex_8e157 4 = .ok (.iload_n 0, 1) := by decide +kernel
theorem dJ3_checkIndex_8e157_5 : decode cJ3_checkIndex_8e157 5 = .ok (.iload_n 1, 1) := by decide +kernel
theorem dJ3_checkIndex_8e157_6 : decode cJ3_checkIndex_8e157 6 = .ok (.if_icmp .lt 10, 3) := by decide +kernel
theorem dJ3_checkIndex_8e157_9 : decode cJ3_checkIndex_8e157 9 = .ok (.aload_n 2, 1) := by decide +kernel
theorem dJ3_checkIndex_8e157_10 : decode cJ3_checkIndex_8e157 10 = .ok (.iload_n 0, 1) := by decide +kernel
theorem dJ3_checkIndex_8e157_11 : decode cJ3_checkIndex_8e157 11 = .ok (.iload_n 1, 1) := by decide +kernel
theorem dJ3_checkIndex_8e157_12 : decode cJ3_checkIndex_8e157 12 = .ok (.invokestatic 95, 3) := by decide +kernel
theorem dJ3_checkIndex_8e157_15 : decode cJ3_checkIndex_8e157 15 = .ok (.athrow, 1) := by decide +kernel
theorem dJ3_checkIndex_8e157_16 : decode cJ3_checkIndex_8e157 16 = .ok (.iload_n 0, 1) := by decide +kernel
theorem dJ3_checkIndex_8e157_17 : decode cJ3_checkIndex_8e157 17 = .ok (.ireturn, 1) := by decide +kernel
theorem dL_law_0 : decode cL_law 0 = .ok (.new 7, 3) := by decide +kernel
theorem dL_law_3 : decode cL_law 3 = .ok (.dup, 1) := by decide +kernel
theorem dL_law_4 : decode cL_law 4 = .ok (.invokespecial 9, 3) := by decide +kernel
theorem dL_law_7 : decode cL_law 7 = .ok (.astore_n 1, 1) := by decide +kernel
theorem dL_law_8 : decode cL_law 8 = .ok (.new 10, 3) := by decide +kernel
theorem dL_law_11 : decode cL_law 11 = .ok (.dup, 1) := by decide +kernel
theorem dL_law_12 : decode cL_law 12 = .ok (.invokespecial 12, 3) := by decide +kernel
theorem dL_law_15 : decode cL_law 15 = .ok (.astore_n 2, 1) := by decide +kernel
theorem dL_law_16 : decode cL_law 16 = .ok (.iconst 0, 1) := by decide +kernel
theorem dL_law_17 : decode cL_law 17 = .ok (.istore_n 3, 1) := by decide +kernel
theorem dL_law_18 : decode cL_law 18 = .ok (.iload_n 3, 1) := by decide +kernel
theorem dL_law_19 : decode cL_law 19 = .ok (.aload_n 0, 1) := by decide +kernel
theorem dL_law_20 : decode cL_law 20 = .ok (.arraylength, 1) := by decide +kernel
theorem dL_law_21 : decode cL_law 21 = .ok (.bipush 6, 2) := by decide +kernel
theorem dL_law_23 : decode cL_law 23 = .ok (.isub, 1) := by decide +kernel
theorem dL_law_24 : decode cL_law 24 = .ok (.if_icmp .gt 683, 3) := by decide +kernel
theorem dL_law_27 : decode cL_law 27 = .ok (.aload_n 0, 1) := by decide +kernel
theorem dL_law_28 : decode cL_law 28 = .ok (.iload_n 3, 1) := by decide +kernel
theorem dL_law_29 : decode cL_law 29 = .ok (.iaload, 1) := by decide +kernel
theorem dL_law_30 : decode cL_law 30 = .ok (.bipush 31, 2) := by decide +kernel
theorem dL_law_32 : decode cL_law 32 = .ok (.iand, 1) := by decide +kernel
theorem dL_law_33 : decode cL_law 33 = .ok (.tableswitch 668 0 18 #[91, 154, 177, 190, 223, 286, 309, 332, 355, 388, 421, 444, 467, 490, 513, 546, 599, 622, 645], 91) := by decide +kernel
theorem dL_law_124 : decode cL_law 124 = .ok (.aload_n 1, 1) := by decide +kernel
theorem dL_law_125 : decode cL_law 125 = .ok (.aload_n 0, 1) := by decide +kernel
theorem dL_law_126 : decode cL_law 126 = .ok (.iload_n 3, 1) := by decide +kernel
theorem dL_law_127 : decode cL_law 127 = .ok (.iconst 1, 1) := by decide +kernel
theorem dL_law_128 : decode cL_law 128 = .ok (.iadd, 1) := by decide +kernel
theorem dL_law_129 : decode cL_law 129 = .ok (.iaload, 1) := by decide +kernel
theorem dL_law_130 : decode cL_law 130 = .ok (.aload_n 0, 1) := by decide +kernel
theorem dL_law_131 : decode cL_law 131 = .ok (.iload_n 3, 1) := by decide +kernel
theorem dL_law_132 : decode cL_law 132 = .ok (.iconst 2, 1) := by decide +kernel
theorem dL_law_133 : decode cL_law 133 = .ok (.iadd, 1) := by decide +kernel
theorem dL_law_134 : decode cL_law 134 = .ok (.iaload, 1) := by decide +kernel
theorem dL_law_135 : decode cL_law 135 = .ok (.aload_n 0, 1) := by decide +kernel
theorem dL_law_136 : decode cL_law 136 = .ok (.iload_n 3, 1) := by decide +kernel
theorem dL_law_137 : decode cL_law 137 = .ok (.iconst 3, 1) := by decide +kernel
theorem dL_law_138 : decode cL_law 138 = .ok (.iadd, 1) := by decide +kernel
theorem dL_law_139 : decode cL_law 139 = .ok (.iaload, 1) := by decide +kernel
theorem dL_law_140 : decode cL_law 140 = .ok (.aload_n 0, 1) := by decide +kernel
theorem dL_law_141 : decode cL_law 141 = .ok (.iload_n 3, 1) := by decide +kernel
theorem dL_law_142 : decode cL_law 142 = .ok (.iconst 4, 1) := by decide +kernel
theorem dL_law_143 : decode cL_law 143 = .ok (.iadd, 1) := by decide +kernel
theorem dL_law_144 : decode cL_law 144 = .ok (.iaload, 1) := by decide +kernel
theorem dL_law_145 : decode cL_law 145 = .ok (.aload_n 0, 1) := by decide +kernel
theorem dL_law_146 : decode cL_law 146 = .ok (.iload_n 3, 1) := by decide +kernel
theorem dL_law_147 : decode cL_law 147 = .ok (.iconst 5, 1) := by decide +kernel
theorem dL_law_148 : decode cL_law 148 = .ok (.iadd, 1) := by decide +kernel
theorem dL_law_149 : decode cL_law 149 = .ok (.iaload, 1) := by decide +kernel
theorem dL_law_150 : decode cL_law 150 = .ok (.invokevirtual 13, 3) := by decide +kernel
theorem dL_law_153 : decode cL_law 153 = .ok (.aload_n 2, 1) := by decide +kernel
theorem dL_law_154 : decode cL_law 154 = .ok (.aload_n 0, 1) := by decide +kernel
theorem dL_law_155 : decode cL_law 155 = .ok (.iload_n 3, 1) := by decide +kernel
theorem dL_law_156 : decode cL_law 156 = .ok (.iconst 1, 1) := by decide +kernel
theorem dL_law_157 : decode cL_law 157 = .ok (.iadd, 1) := by decide +kernel
theorem dL_law_158 : decode cL_law 158 = .ok (.iaload, 1) := by decide +kernel
theorem dL_law_159 : decode cL_law 159 = .ok (.aload_n 0, 1) := by decide +kernel
theorem dL_law_160 : decode cL_law 160 = .ok (.iload_n 3, 1) := by decide +kernel
theorem dL_law_161 : decode cL_law 161 = .ok (.iconst 2, 1) := by decide +kernel
theorem dL_law_162 : decode cL_law 162 = .ok (.iadd, 1) := by decide +kernel
theorem dL_law_163 : decode cL_law 163 = .ok (.iaload, 1) := by decide +kernel
theorem dL_law_164 : decode cL_law 164 = .ok (.aload_n 0, 1) := by decide +kernel
theorem dL_law_165 : decode cL_law 165 = .ok (.iload_n 3, 1) := by decide +kernel
theorem dL_law_166 : decode cL_law 166 = .ok (.iconst 3, 1) := by decide +kernel
theorem dL_law_167 : decode cL_law 167 = .ok (.iadd, 1) := by decide +kernel
theorem dL_law_168 : decode cL_law 168 = .ok (.iaload, 1) := by decide +kernel
theorem dL_law_169 : decode cL_law 169 = .ok (.aload_n 0, 1) := by decide +kernel
theorem dL_law_170 : decode cL_law 170 = .ok (.iload_n 3, 1) := by decide +kernel
theorem dL_law_171 : decode cL_law 171 = .ok (.iconst 4, 1) := by decide +kernel
theorem dL_law_172 : decode cL_law 172 = .ok (.iadd, 1) := by decide +kernel
theorem dL_law_173 : decode cL_law 173 = .ok (.iaload, 1) := by decide +kernel
theorem dL_law_174 : decode cL_law 174 = .ok (.aload_n 0, 1) := by decide +kernel
theorem dL_law_175 : decode cL_law 175 = .ok (.iload_n 3, 1) := by decide +kernel
theorem dL_law_176 : decode cL_law 176 = .ok (.iconst 5, 1) := by decide +kernel
theorem dL_law_177 : decode cL_law 177 = .ok (.iadd, 1) := by decide +kernel
theorem dL_law_178 : decode cL_law 178 = .ok (.iaload, 1) := by decide +kernel
theorem dL_law_179 : decode cL_law 179 = .ok (.invokevirtual 17, 3) := by decide +kernel
theorem dL_law_182 : decode cL_law 182 = .ok (.if_icmp .eq 519, 3) := by decide +kernel
theorem dL_law_185 : decode cL_law 185 = .ok (.iconst 0, 1) := by decide +kernel
theorem dL_law_186 : decode cL_law 186 = .ok (.ireturn, 1) := by decide +kernel
theorem dL_law_187 : decode cL_law 187 = .ok (.aload_n 1, 1) := by decide +kernel
theorem dL_law_188 : decode cL_law 188 = .ok (.aload_n 0, 1) := by decide +kernel
theorem dL_law_189 : decode cL_law 189 = .ok (.iload_n 3, 1) := by decide +kernel
theorem dL_law_190 : decode cL_law 190 = .ok (.iconst 1, 1) := by decide +kernel
theorem dL_law_191 : decode cL_law 191 = .ok (.iadd, 1) := by decide +kernel
theorem dL_law_192 : decode cL_law 192 = .ok (.iaload, 1) := by decide +kernel
theorem dL_law_193 : decode cL_law 193 = .ok (.invokevirtual 18, 3) := by decide +kernel
theorem dL_law_196 : decode cL_law 196 = .ok (.aload_n 2, 1) := by decide +kernel
theorem dL_law_197 : decode cL_law 197 = .ok (.aload_n 0, 1) := by decide +kernel
theorem dL_law_198 : decode cL_law 198 = .ok (.iload_n 3, 1) := by decide +kernel
theorem dL_law_199 : decode cL_law 199 = .ok (.iconst 1, 1) := by decide +kernel
theorem dL_law_200 : decode cL_law 200 = .ok (.iadd, 1) := by decide +kernel
theorem dL_law_201 : decode cL_law 201 = .ok (.iaload, 1) := by decide +kernel
theorem dL_law_202 : decode cL_law 202 = .ok (.invokevirtual 22, 3) := by decide +kernel
theorem dL_law_205 : decode cL_law 205 = .ok (.if_icmp .eq 496, 3) := by decide +kernel
theorem dL_law_208 : decode cL_law 208 = .ok (.iconst 0, 1) := by decide +kernel
theorem dL_law_209 : decode cL_law 209 = .ok (.ireturn, 1) := by decide +kernel
theorem dL_law_210 : decode cL_law 210 = .ok (.aload_n 1, 1) := by decide +kernel
theorem dL_law_211 : decode cL_law 211 = .ok (.invokevirtual 23, 3) := by decide +kernel
theorem dL_law_214 : decode cL_law 214 = .ok (.aload_n 2, 1) := by decide +kernel
theorem dL_law_215 : decode cL_law 215 = .ok (.invokevirtual 27, 3) := by decide +kernel
theorem dL_law_218 : decode cL_law 218 = .ok (.if_icmp .eq 483, 3) := by decide +kernel
theorem dL_law_221 : decode cL_law 221 = .ok (.iconst 0, 1) := by decide +kernel
theorem dL_law_222 : decode cL_law 222 = .ok (.ireturn, 1) := by decide +kernel
theorem dL_law_223 : decode cL_law 223 = .ok (.aload_n 1, 1) := by decide +kernel
theorem dL_law_224 : decode cL_law 224 = .ok (.aload_n 0, 1) := by decide +kernel
theorem dL_law_225 : decode cL_law 225 = .ok (.iload_n 3, 1) := by decide +kernel
theorem dL_law_226 : decode cL_law 226 = .ok (.iconst 1, 1) := by decide +kernel
theorem dL_law_227 : decode cL_law 227 = .ok (.iadd, 1) := by decide +kernel
theorem dL_law_228 : decode cL_law 228 = .ok (.iaload, 1) := by decide +kernel
theorem dL_law_229 : decode cL_law 229 = .ok (.aload_n 0, 1) := by decide +kernel
theorem dL_law_230 : decode cL_law 230 = .ok (.iload_n 3, 1) := by decide +kernel
theorem dL_law_231 : decode cL_law 231 = .ok (.iconst 2, 1) := by decide +kernel
theorem dL_law_232 : decode cL_law 232 = .ok (.iadd, 1) := by decide +kernel
theorem dL_law_233 : decode cL_law 233 = .ok (.iaload, 1) := by decide +kernel
theorem dL_law_234 : decode cL_law 234 = .ok (.invokevirtual 28, 3) := by decide +kernel
theorem dL_law_237 : decode cL_law 237 = .ok (.aload_n 2, 1) := by decide +kernel
theorem dL_law_238 : decode cL_law 238 = .ok (.aload_n 0, 1) := by decide +kernel
theorem dL_law_239 : decode cL_law 239 = .ok (.iload_n 3, 1) := by decide +kernel
theorem dL_law_240 : decode cL_law 240 = .ok (.iconst 1, 1) := by decide +kernel
theorem dL_law_241 : decode cL_law 241 = .ok (.iadd, 1) := by decide +kernel
theorem dL_law_242 : decode cL_law 242 = .ok (.iaload, 1) := by decide +kernel
theorem dL_law_243 : decode cL_law 243 = .ok (.aload_n 0, 1) := by decide +kernel
theorem dL_law_244 : decode cL_law 244 = .ok (.iload_n 3, 1) := by decide +kernel
theorem dL_law_245 : decode cL_law 245 = .ok (.iconst 2, 1) := by decide +kernel
theorem dL_law_246 : decode cL_law 246 = .ok (.iadd, 1) := by decide +kernel
theorem dL_law_247 : decode cL_law 247 = .ok (.iaload, 1) := by decide +kernel
theorem dL_law_248 : decode cL_law 248 = .ok (.invokevirtual 32, 3) := by decide +kernel
theorem dL_law_251 : decode cL_law 251 = .ok (.if_icmp .eq 450, 3) := by decide +kernel
theorem dL_law_254 : decode cL_law 254 = .ok (.iconst 0, 1) := by decide +kernel
theorem dL_law_255 : decode cL_law 255 = .ok (.ireturn, 1) := by decide +kernel
theorem dL_law_256 : decode cL_law 256 = .ok (.aload_n 1, 1) := by decide +kernel
theorem dL_law_257 : decode cL_law 257 = .ok (.aload_n 0, 1) := by decide +kernel
theorem dL_law_258 : decode cL_law 258 = .ok (.iload_n 3, 1) := by decide +kernel
theorem dL_law_259 : decode cL_law 259 = .ok (.iconst 1, 1) := by decide +kernel
theorem dL_law_260 : decode cL_law 260 = .ok (.iadd, 1) := by decide +kernel
theorem dL_law_261 : decode cL_law 261 = .ok (.iaload, 1) := by decide +kernel
theorem dL_law_262 : decode cL_law 262 = .ok (.aload_n 0, 1) := by decide +kernel
theorem dL_law_263 : decode cL_law 263 = .ok (.iload_n 3, 1) := by decide +kernel
theorem dL_law_264 : decode cL_law 264 = .ok (.iconst 2, 1) := by decide +kernel
theorem dL_law_265 : decode cL_law 265 = .ok (.iadd, 1) := by decide +kernel
theorem dL_law_266 : decode cL_law 266 = .ok (.iaload, 1) := by decide +kernel
theorem dL_law_267 : decode cL_law 267 = .ok (.aload_n 0, 1) := by decide +kernel
theorem dL_law_268 : decode cL_law 268 = .ok (.iload_n 3, 1) := by decide +kernel
theorem dL_law_269 : decode cL_law 269 = .ok (.iconst 3, 1) := by decide +kernel
theorem dL_law_270 : decode cL_law 270 = .ok (.iadd, 1) := by decide +kernel
theorem dL_law_271 : decode cL_law 271 = .ok (.iaload, 1) := by decide +kernel
theorem dL_law_272 : decode cL_law 272 = .ok (.aload_n 0, 1) := by decide +kernel
theorem dL_law_273 : decode cL_law 273 = .ok (.iload_n 3, 1) := by decide +kernel
theorem dL_law_274 : decode cL_law 274 = .ok (.iconst 4, 1) := by decide +kernel
theorem dL_law_275 : decode cL_law 275 = .ok (.iadd, 1) := by decide +kernel
theorem dL_law_276 : decode cL_law 276 = .ok (.iaload, 1) := by decide +kernel
theorem dL_law_277 : decode cL_law 277 = .ok (.aload_n 0, 1) := by decide +kernel
theorem dL_law_278 : decode cL_law 278 = .ok (.iload_n 3, 1) := by decide +kernel
theorem dL_law_279 : decode cL_law 279 = .ok (.iconst 5, 1) := by decide +kernel
theorem dL_law_280 : decode cL_law 280 = .ok (.iadd, 1) := by decide +kernel
theorem dL_law_281 : decode cL_law 281 = .ok (.iaload, 1) := by decide +kernel
theorem dL_law_282 : decode cL_law 282 = .ok (.invokevirtual 33, 3) := by decide +kernel
theorem dL_law_285 : decode cL_law 285 = .ok (.aload_n 2, 1) := by decide +kernel
theorem dL_law_286 : decode cL_law 286 = .ok (.aload_n 0, 1) := by decide +kernel
theorem dL_law_287 : decode cL_law 287 = .ok (.iload_n 3, 1) := by decide +kernel
theorem dL_law_288 : decode cL_law 288 = .ok (.iconst 1, 1) := by decide +kernel
theorem dL_law_289 : decode cL_law 289 = .ok (.iadd, 1) := by decide +kernel
theorem dL_law_290 : decode cL_law 290 = .ok (.iaload, 1) := by decide +kernel
theorem dL_law_291 : decode cL_law 291 = .ok (.aload_n 0, 1) := by decide +kernel
theorem dL_law_292 : decode cL_law 292 = .ok (.iload_n 3, 1) := by decide +kernel
theorem dL_law_293 : decode cL_law 293 = .ok (.iconst 2, 1) := by decide +kernel
theorem dL_law_294 : decode cL_law 294 = .ok (.iadd, 1) := by decide +kernel
theorem dL_law_295 : decode cL_law 295 = .ok (.iaload, 1) := by decide +kernel
theorem dL_law_296 : decode cL_law 296 = .ok (.aload_n 0, 1) := by decide +kernel
theorem dL_law_297 : decode cL_law 297 = .ok (.iload_n 3, 1) := by decide +kernel
theorem dL_law_298 : decode cL_law 298 = .ok (.iconst 3, 1) := by decide +kernel
theorem dL_law_299 : decode cL_law 299 = .ok (.iadd, 1) := by decide +kernel
theorem dL_law_300 : decode cL_law 300 = .ok (.iaload, 1) := by decide +kernel
theorem dL_law_301 : decode cL_law 301 = .ok (.aload_n 0, 1) := by decide +kernel
theorem dL_law_302 : decode cL_law 302 = .ok (.iload_n 3, 1) := by decide +kernel
theorem dL_law_303 : decode cL_law 303 = .ok (.iconst 4, 1) := by decide +kernel
theorem dL_law_304 : decode cL_law 304 = .ok (.iadd, 1) := by decide +kernel
theorem dL_law_305 : decode cL_law 305 = .ok (.iaload, 1) := by decide +kernel
theorem dL_law_306 : decode cL_law 306 = .ok (.aload_n 0, 1) := by decide +kernel
theorem dL_law_307 : decode cL_law 307 = .ok (.iload_n 3, 1) := by decide +kernel
theorem dL_law_308 : decode cL_law 308 = .ok (.iconst 5, 1) := by decide +kernel
theorem dL_law_309 : decode cL_law 309 = .ok (.iadd, 1) := by decide +kernel
theorem dL_law_310 : decode cL_law 310 = .ok (.iaload, 1) := by decide +kernel
theorem dL_law_311 : decode cL_law 311 = .ok (.invokevirtual 36, 3) := by decide +kernel
theorem dL_law_314 : decode cL_law 314 = .ok (.if_icmp .eq 387, 3) := by decide +kernel
theorem dL_law_317 : decode cL_law 317 = .ok (.iconst 0, 1) := by decide +kernel
theorem dL_law_318 : decode cL_law 318 = .ok (.ireturn, 1) := by decide +kernel
theorem dL_law_319 : decode cL_law 319 = .ok (.aload_n 1, 1) := by decide +kernel
theorem dL_law_320 : decode cL_law 320 = .ok (.aload_n 0, 1) := by decide +kernel
theorem dL_law_321 : decode cL_law 321 = .ok (.iload_n 3, 1) := by decide +kernel
theorem dL_law_322 : decode cL_law 322 = .ok (.iconst 1, 1) := by decide +kernel
theorem dL_law_323 : decode cL_law 323 = .ok (.iadd, 1) := by decide +kernel
theorem dL_law_324 : decode cL_law 324 = .ok (.iaload, 1) := by decide +kernel
theorem dL_law_325 : decode cL_law 325 = .ok (.invokevirtual 37, 3) := by decide +kernel
theorem dL_law_328 : decode cL_law 328 = .ok (.aload_n 2, 1) := by decide +kernel
theorem dL_law_329 : decode cL_law 329 = .ok (.aload_n 0, 1) := by decide +kernel
theorem dL_law_330 : decode cL_law 330 = .ok (.iload_n 3, 1) := by decide +kernel
theorem dL_law_331 : decode cL_law 331 = .ok (.iconst 1, 1) := by decide +kernel
theorem dL_law_332 : decode cL_law 332 = .ok (.iadd, 1) := by decide +kernel
theorem dL_law_333 : decode cL_law 333 = .ok (.iaload, 1) := by decide +kernel
theorem dL_law_334 : decode cL_law 334 = .ok (.invokevirtual 40, 3) := by decide +kernel
theorem dL_law_337 : decode cL_law 337 = .ok (.if_icmp .eq 364, 3) := by decide +kernel
theorem dL_law_340 : decode cL_law 340 = .ok (.iconst 0, 1) := by decide +kernel
theorem dL_law_341 : decode cL_law 341 = .ok (.ireturn, 1) := by decide +kernel
theorem dL_law_342 : decode cL_law 342 = .ok (.aload_n 1, 1) := by decide +kernel
theorem dL_law_343 : decode cL_law 343 = .ok (.aload_n 0, 1) := by decide +kernel
theorem dL_law_344 : decode cL_law 344 = .ok (.iload_n 3, 1) := by decide +kernel
theorem dL_law_345 : decode cL_law 345 = .ok (.iconst 1, 1) := by decide +kernel
theorem dL_law_346 : decode cL_law 346 = .ok (.iadd, 1) := by decide +kernel
theorem dL_law_347 : decode cL_law 347 = .ok (.iaload, 1) := by decide +kernel
theorem dL_law_348 : decode cL_law 348 = .ok (.invokevirtual 41, 3) := by decide +kernel
theorem dL_law_351 : decode cL_law 351 = .ok (.aload_n 2, 1) := by decide +kernel
theorem dL_law_352 : decode cL_law 352 = .ok (.aload_n 0, 1) := by decide +kernel
theorem dL_law_353 : decode cL_law 353 = .ok (.iload_n 3, 1) := by decide +kernel
theorem dL_law_354 : decode cL_law 354 = .ok (.iconst 1, 1) := by decide +kernel
theorem dL_law_355 : decode cL_law 355 = .ok (.iadd, 1) := by decide +kernel
theorem dL_law_356 : decode cL_law 356 = .ok (.iaload, 1) := by decide +kernel
theorem dL_law_357 : decode cL_law 357 = .ok (.invokevirtual 44, 3) := by decide +kernel
theorem dL_law_360 : decode cL_law 360 = .ok (.if_icmp .eq 341, 3) := by decide +kernel
theorem dL_law_363 : decode cL_law 363 = .ok (.iconst 0, 1) := by decide +kernel
theorem dL_law_364 : decode cL_law 364 = .ok (.ireturn, 1) := by decide +kernel
theorem dL_law_365 : decode cL_law 365 = .ok (.aload_n 1, 1) := by decide +kernel
theorem dL_law_366 : decode cL_law 366 = .ok (.aload_n 0, 1) := by decide +kernel
theorem dL_law_367 : decode cL_law 367 = .ok (.iload_n 3, 1) := by decide +kernel
theorem dL_law_368 : decode cL_law 368 = .ok (.iconst 1, 1) := by decide +kernel
theorem dL_law_369 : decode cL_law 369 = .ok (.iadd, 1) := by decide +kernel
theorem dL_law_370 : decode cL_law 370 = .ok (.iaload, 1) := by decide +kernel
theorem dL_law_371 : decode cL_law 371 = .ok (.invokevirtual 45, 3) := by decide +kernel
theorem dL_law_374 : decode cL_law 374 = .ok (.aload_n 2, 1) := by decide +kernel
theorem dL_law_375 : decode cL_law 375 = .ok (.aload_n 0, 1) := by decide +kernel
theorem dL_law_376 : decode cL_law 376 = .ok (.iload_n 3, 1) := by decide +kernel
theorem dL_law_377 : decode cL_law 377 = .ok (.iconst 1, 1) := by decide +kernel
theorem dL_law_378 : decode cL_law 378 = .ok (.iadd, 1) := by decide +kernel
theorem dL_law_379 : decode cL_law 379 = .ok (.iaload, 1) := by decide +kernel
theorem dL_law_380 : decode cL_law 380 = .ok (.invokevirtual 48, 3) := by decide +kernel
theorem dL_law_383 : decode cL_law 383 = .ok (.if_icmp .eq 318, 3) := by decide +kernel
theorem dL_law_386 : decode cL_law 386 = .ok (.iconst 0, 1) := by decide +kernel
theorem dL_law_387 : decode cL_law 387 = .ok (.ireturn, 1) := by decide +kernel
theorem dL_law_388 : decode cL_law 388 = .ok (.aload_n 1, 1) := by decide +kernel
theorem dL_law_389 : decode cL_law 389 = .ok (.aload_n 0, 1) := by decide +kernel
theorem dL_law_390 : decode cL_law 390 = .ok (.iload_n 3, 1) := by decide +kernel
theorem dL_law_391 : decode cL_law 391 = .ok (.iconst 1, 1) := by decide +kernel
theorem dL_law_392 : decode cL_law 392 = .ok (.iadd, 1) := by decide +kernel
theorem dL_law_393 : decode cL_law 393 = .ok (.iaload, 1) := by decide +kernel
theorem dL_law_394 : decode cL_law 394 = .ok (.aload_n 0, 1) := by decide +kernel
theorem dL_law_395 : decode cL_law 395 = .ok (.iload_n 3, 1) := by decide +kernel
theorem dL_law_396 : decode cL_law 396 = .ok (.iconst 2, 1) := by decide +kernel
theorem dL_law_397 : decode cL_law 397 = .ok (.iadd, 1) := by decide +kernel
theorem dL_law_398 : decode cL_law 398 = .ok (.iaload, 1) := by decide +kernel
theorem dL_law_399 : decode cL_law 399 = .ok (.invokevirtual 49, 3) := by decide +kernel
theorem dL_law_402 : decode cL_law 402 = .ok (.aload_n 2, 1) := by decide +kernel
theorem dL_law_403 : decode cL_law 403 = .ok (.aload_n 0, 1) := by decide +kernel
theorem dL_law_404 : decode cL_law 404 = .ok (.iload_n 3, 1) := by decide +kernel
theorem dL_law_405 : decode cL_law 405 = .ok (.iconst 1, 1) := by decide +kernel
theorem dL_law_406 : decode cL_law 406 = .ok (.iadd, 1) := by decide +kernel
theorem dL_law_407 : decode cL_law 407 = .ok (.iaload, 1) := by decide +kernel
theorem dL_law_408 : decode cL_law 408 = .ok (.aload_n 0, 1) := by decide +kernel
theorem dL_law_409 : decode cL_law 409 = .ok (.iload_n 3, 1) := by decide +kernel
theorem dL_law_410 : decode cL_law 410 = .ok (.iconst 2, 1) := by decide +kernel
theorem dL_law_411 : decode cL_law 411 = .ok (.iadd, 1) := by decide +kernel
theorem dL_law_412 : decode cL_law 412 = .ok (.iaload, 1) := by decide +kernel
theorem dL_law_413 : decode cL_law 413 = .ok (.invokevirtual 53, 3) := by decide +kernel
theorem dL_law_416 : decode cL_law 416 = .ok (.if_icmp .eq 285, 3) := by decide +kernel
theorem dL_law_419 : decode cL_law 419 = .ok (.iconst 0, 1) := by decide +kernel
theorem dL_law_420 : decode cL_law 420 = .ok (.ireturn, 1) := by decide +kernel
theorem dL_law_421 : decode cL_law 421 = .ok (.aload_n 1, 1) := by decide +kernel
theorem dL_law_422 : decode cL_law 422 = .ok (.aload_n 0, 1) := by decide +kernel
theorem dL_law_423 : decode cL_law 423 = .ok (.iload_n 3, 1) := by decide +kernel
theorem dL_law_424 : decode cL_law 424 = .ok (.iconst 1, 1) := by decide +kernel
theorem dL_law_425 : decode cL_law 425 = .ok (.iadd, 1) := by decide +kernel
theorem dL_law_426 : decode cL_law 426 = .ok (.iaload, 1) := by decide +kernel
theorem dL_law_427 : decode cL_law 427 = .ok (.aload_n 0, 1) := by decide +kernel
theorem dL_law_428 : decode cL_law 428 = .ok (.iload_n 3, 1) := by decide +kernel
theorem dL_law_429 : decode cL_law 429 = .ok (.iconst 2, 1) := by decide +kernel
theorem dL_law_430 : decode cL_law 430 = .ok (.iadd, 1) := by decide +kernel
theorem dL_law_431 : decode cL_law 431 = .ok (.iaload, 1) := by decide +kernel
theorem dL_law_432 : decode cL_law 432 = .ok (.invokevirtual 54, 3) := by decide +kernel
theorem dL_law_435 : decode cL_law 435 = .ok (.aload_n 2, 1) := by decide +kernel
theorem dL_law_436 : decode cL_law 436 = .ok (.aload_n 0, 1) := by decide +kernel
theorem dL_law_437 : decode cL_law 437 = .ok (.iload_n 3, 1) := by decide +kernel
theorem dL_law_438 : decode cL_law 438 = .ok (.iconst 1, 1) := by decide +kernel
theorem dL_law_439 : decode cL_law 439 = .ok (.iadd, 1) := by decide +kernel
theorem dL_law_440 : decode cL_law 440 = .ok (.iaload, 1) := by decide +kernel
theorem dL_law_441 : decode cL_law 441 = .ok (.aload_n 0, 1) := by decide +kernel
theorem dL_law_442 : decode cL_law 442 = .ok (.iload_n 3, 1) := by decide +kernel
theorem dL_law_443 : decode cL_law 443 = .ok (.iconst 2, 1) := by decide +kernel
theorem dL_law_444 : decode cL_law 444 = .ok (.iadd, 1) := by decide +kernel
theorem dL_law_445 : decode cL_law 445 = .ok (.iaload, 1) := by decide +kernel
theorem dL_law_446 : decode cL_law 446 = .ok (.invokevirtual 57, 3) := by decide +kernel
theorem dL_law_449 : decode cL_law 449 = .ok (.if_icmp .eq 252, 3) := by decide +kernel
theorem dL_law_452 : decode cL_law 452 = .ok (.iconst 0, 1) := by decide +kernel
theorem dL_law_453 : decode cL_law 453 = .ok (.ireturn, 1) := by decide +kernel
theorem dL_law_454 : decode cL_law 454 = .ok (.aload_n 1, 1) := by decide +kernel
theorem dL_law_455 : decode cL_law 455 = .ok (.aload_n 0, 1) := by decide +kernel
theorem dL_law_456 : decode cL_law 456 = .ok (.iload_n 3, 1) := by decide +kernel
theorem dL_law_457 : decode cL_law 457 = .ok (.iconst 1, 1) := by decide +kernel
theorem dL_law_458 : decode cL_law 458 = .ok (.iadd, 1) := by decide +kernel
theorem dL_law_459 : decode cL_law 459 = .ok (.iaload, 1) := by decide +kernel
theorem dL_law_460 : decode cL_law 460 = .ok (.invokevirtual 58, 3) := by decide +kernel
theorem dL_law_463 : decode cL_law 463 = .ok (.aload_n 2, 1) := by decide +kernel
theorem dL_law_464 : decode cL_law 464 = .ok (.aload_n 0, 1) := by decide +kernel
theorem dL_law_465 : decode cL_law 465 = .ok (.iload_n 3, 1) := by decide +kernel
theorem dL_law_466 : decode cL_law 466 = .ok (.iconst 1, 1) := by decide +kernel
theorem dL_law_467 : decode cL_law 467 = .ok (.iadd, 1) := by decide +kernel
theorem dL_law_468 : decode cL_law 468 = .ok (.iaload, 1) := by decide +kernel
theorem dL_law_469 : decode cL_law 469 = .ok (.invokevirtual 61, 3) := by decide +kernel
theorem dL_law_472 : decode cL_law 472 = .ok (.if_icmp .eq 229, 3) := by decide +kernel
theorem dL_law_475 : decode cL_law 475 = .ok (.iconst 0, 1) := by decide +kernel
theorem dL_law_476 : decode cL_law 476 = .ok (.ireturn, 1) := by decide +kernel
theorem dL_law_477 : decode cL_law 477 = .ok (.aload_n 1, 1) := by decide +kernel
theorem dL_law_478 : decode cL_law 478 = .ok (.aload_n 0, 1) := by decide +kernel
theorem dL_law_479 : decode cL_law 479 = .ok (.iload_n 3, 1) := by decide +kernel
theorem dL_law_480 : decode cL_law 480 = .ok (.iconst 1, 1) := by decide +kernel
theorem dL_law_481 : decode cL_law 481 = .ok (.iadd, 1) := by decide +kernel
theorem dL_law_482 : decode cL_law 482 = .ok (.iaload, 1) := by decide +kernel
theorem dL_law_483 : decode cL_law 483 = .ok (.invokevirtual 62, 3) := by decide +kernel
theorem dL_law_486 : decode cL_law 486 = .ok (.aload_n 2, 1) := by decide +kernel
theorem dL_law_487 : decode cL_law 487 = .ok (.aload_n 0, 1) := by decide +kernel
theorem dL_law_488 : decode cL_law 488 = .ok (.iload_n 3, 1) := by decide +kernel
theorem dL_law_489 : decode cL_law 489 = .ok (.iconst 1, 1) := by decide +kernel
theorem dL_law_490 : decode cL_law 490 = .ok (.iadd, 1) := by decide +kernel
theorem dL_law_491 : decode cL_law 491 = .ok (.iaload, 1) := by decide +kernel
theorem dL_law_492 : decode cL_law 492 = .ok (.invokevirtual 65, 3) := by decide +kernel
theorem dL_law_495 : decode cL_law 495 = .ok (.if_icmp .eq 206, 3) := by decide +kernel
theorem dL_law_498 : decode cL_law 498 = .ok (.iconst 0, 1) := by decide +kernel
theorem dL_law_499 : decode cL_law 499 = .ok (.ireturn, 1) := by decide +kernel
theorem dL_law_500 : decode cL_law 500 = .ok (.aload_n 1, 1) := by decide +kernel
theorem dL_law_501 : decode cL_law 501 = .ok (.aload_n 0, 1) := by decide +kernel
theorem dL_law_502 : decode cL_law 502 = .ok (.iload_n 3, 1) := by decide +kernel
theorem dL_law_503 : decode cL_law 503 = .ok (.iconst 1, 1) := by decide +kernel
theorem dL_law_504 : decode cL_law 504 = .ok (.iadd, 1) := by decide +kernel
theorem dL_law_505 : decode cL_law 505 = .ok (.iaload, 1) := by decide +kernel
theorem dL_law_506 : decode cL_law 506 = .ok (.invokevirtual 66, 3) := by decide +kernel
theorem dL_law_509 : decode cL_law 509 = .ok (.aload_n 2, 1) := by decide +kernel
theorem dL_law_510 : decode cL_law 510 = .ok (.aload_n 0, 1) := by decide +kernel
theorem dL_law_511 : decode cL_law 511 = .ok (.iload_n 3, 1) := by decide +kernel
theorem dL_law_512 : decode cL_law 512 = .ok (.iconst 1, 1) := by decide +kernel
theorem dL_law_513 : decode cL_law 513 = .ok (.iadd, 1) := by decide +kernel
theorem dL_law_514 : decode cL_law 514 = .ok (.iaload, 1) := by decide +kernel
theorem dL_law_515 : decode cL_law 515 = .ok (.invokevirtual 69, 3) := by decide +kernel
theorem dL_law_518 : decode cL_law 518 = .ok (.if_icmp .eq 183, 3) := by decide +kernel
theorem dL_law_521 : decode cL_law 521 = .ok (.iconst 0, 1) := by decide +kernel
theorem dL_law_522 : decode cL_law 522 = .ok (.ireturn, 1) := by decide +kernel
theorem dL_law_523 : decode cL_law 523 = .ok (.aload_n 1, 1) := by decide +kernel
theorem dL_law_524 : decode cL_law 524 = .ok (.aload_n 0, 1) := by decide +kernel
theorem dL_law_525 : decode cL_law 525 = .ok (.iload_n 3, 1) := by decide +kernel
theorem dL_law_526 : decode cL_law 526 = .ok (.iconst 1, 1) := by decide +kernel
theorem dL_law_527 : decode cL_law 527 = .ok (.iadd, 1) := by decide +kernel
theorem dL_law_528 : decode cL_law 528 = .ok (.iaload, 1) := by decide +kernel
theorem dL_law_529 : decode cL_law 529 = .ok (.invokevirtual 70, 3) := by decide +kernel
theorem dL_law_532 : decode cL_law 532 = .ok (.aload_n 2, 1) := by decide +kernel
theorem dL_law_533 : decode cL_law 533 = .ok (.aload_n 0, 1) := by decide +kernel
theorem dL_law_534 : decode cL_law 534 = .ok (.iload_n 3, 1) := by decide +kernel
theorem dL_law_535 : decode cL_law 535 = .ok (.iconst 1, 1) := by decide +kernel
theorem dL_law_536 : decode cL_law 536 = .ok (.iadd, 1) := by decide +kernel
theorem dL_law_537 : decode cL_law 537 = .ok (.iaload, 1) := by decide +kernel
theorem dL_law_538 : decode cL_law 538 = .ok (.invokevirtual 73, 3) := by decide +kernel
theorem dL_law_541 : decode cL_law 541 = .ok (.if_icmp .eq 160, 3) := by decide +kernel
theorem dL_law_544 : decode cL_law 544 = .ok (.iconst 0, 1) := by decide +kernel
theorem dL_law_545 : decode cL_law 545 = .ok (.ireturn, 1) := by decide +kernel
theorem dL_law_546 : decode cL_law 546 = .ok (.aload_n 1, 1) := by decide +kernel
theorem dL_law_547 : decode cL_law 547 = .ok (.aload_n 0, 1) := by decide +kernel
theorem dL_law_548 : decode cL_law 548 = .ok (.iload_n 3, 1) := by decide +kernel
theorem dL_law_549 : decode cL_law 549 = .ok (.iconst 1, 1) := by decide +kernel
theorem dL_law_550 : decode cL_law 550 = .ok (.iadd, 1) := by decide +kernel
theorem dL_law_551 : decode cL_law 551 = .ok (.iaload, 1) := by decide +kernel
theorem dL_law_552 : decode cL_law 552 = .ok (.aload_n 0, 1) := by decide +kernel
theorem dL_law_553 : decode cL_law 553 = .ok (.iload_n 3, 1) := by decide +kernel
theorem dL_law_554 : decode cL_law 554 = .ok (.iconst 2, 1) := by decide +kernel
theorem dL_law_555 : decode cL_law 555 = .ok (.iadd, 1) := by decide +kernel
theorem dL_law_556 : decode cL_law 556 = .ok (.iaload, 1) := by decide +kernel
theorem dL_law_557 : decode cL_law 557 = .ok (.invokevirtual 74, 3) := by decide +kernel
theorem dL_law_560 : decode cL_law 560 = .ok (.aload_n 2, 1) := by decide +kernel
theorem dL_law_561 : decode cL_law 561 = .ok (.aload_n 0, 1) := by decide +kernel
theorem dL_law_562 : decode cL_law 562 = .ok (.iload_n 3, 1) := by decide +kernel
theorem dL_law_563 : decode cL_law 563 = .ok (.iconst 1, 1) := by decide +kernel
theorem dL_law_564 : decode cL_law 564 = .ok (.iadd, 1) := by decide +kernel
theorem dL_law_565 : decode cL_law 565 = .ok (.iaload, 1) := by decide +kernel
theorem dL_law_566 : decode cL_law 566 = .ok (.aload_n 0, 1) := by decide +kernel
theorem dL_law_567 : decode cL_law 567 = .ok (.iload_n 3, 1) := by decide +kernel
theorem dL_law_568 : decode cL_law 568 = .ok (.iconst 2, 1) := by decide +kernel
theorem dL_law_569 : decode cL_law 569 = .ok (.iadd, 1) := by decide +kernel
theorem dL_law_570 : decode cL_law 570 = .ok (.iaload, 1) := by decide +kernel
theorem dL_law_571 : decode cL_law 571 = .ok (.invokevirtual 77, 3) := by decide +kernel
theorem dL_law_574 : decode cL_law 574 = .ok (.if_icmp .eq 127, 3) := by decide +kernel
theorem dL_law_577 : decode cL_law 577 = .ok (.iconst 0, 1) := by decide +kernel
theorem dL_law_578 : decode cL_law 578 = .ok (.ireturn, 1) := by decide +kernel
theorem dL_law_579 : decode cL_law 579 = .ok (.aload_n 1, 1) := by decide +kernel
theorem dL_law_580 : decode cL_law 580 = .ok (.aload_n 0, 1) := by decide +kernel
theorem dL_law_581 : decode cL_law 581 = .ok (.iload_n 3, 1) := by decide +kernel
theorem dL_law_582 : decode cL_law 582 = .ok (.iconst 1, 1) := by decide +kernel
theorem dL_law_583 : decode cL_law 583 = .ok (.iadd, 1) := by decide +kernel
theorem dL_law_584 : decode cL_law 584 = .ok (.iaload, 1) := by decide +kernel
theorem dL_law_585 : decode cL_law 585 = .ok (.aload_n 0, 1) := by decide +kernel
theorem dL_law_586 : decode cL_law 586 = .ok (.iload_n 3, 1) := by decide +kernel
theorem dL_law_587 : decode cL_law 587 = .ok (.iconst 2, 1) := by decide +kernel
theorem dL_law_588 : decode cL_law 588 = .ok (.iadd, 1) := by decide +kernel
theorem dL_law_589 : decode cL_law 589 = .ok (.iaload, 1) := by decide +kernel
theorem dL_law_590 : decode cL_law 590 = .ok (.aload_n 0, 1) := by decide +kernel
theorem dL_law_591 : decode cL_law 591 = .ok (.iload_n 3, 1) := by decide +kernel
theorem dL_law_592 : decode cL_law 592 = .ok (.iconst 3, 1) := by decide +kernel
theorem dL_law_593 : decode cL_law 593 = .ok (.iadd, 1) := by decide +kernel
theorem dL_law_594 : decode cL_law 594 = .ok (.iaload, 1) := by decide +kernel
theorem dL_law_595 : decode cL_law 595 = .ok (.aload_n 0, 1) := by decide +kernel
theorem dL_law_596 : decode cL_law 596 = .ok (.iload_n 3, 1) := by decide +kernel
theorem dL_law_597 : decode cL_law 597 = .ok (.iconst 4, 1) := by decide +kernel
theorem dL_law_598 : decode cL_law 598 = .ok (.iadd, 1) := by decide +kernel
theorem dL_law_599 : decode cL_law 599 = .ok (.iaload, 1) := by decide +kernel
theorem dL_law_600 : decode cL_law 600 = .ok (.invokevirtual 78, 3) := by decide +kernel
end
section
theorem dL_law_603 : decode cL_law 603 = .ok (.aload_n 2, 1) := by decide +kernel
theorem dL_law_604 : decode cL_law 604 = .ok (.aload_n 0, 1) := by decide +kernel
theorem dL_law_605 : decode cL_law 605 = .ok (.iload_n 3, 1) := by decide +kernel
theorem dL_law_606 : decode cL_law 606 = .ok (.iconst 1, 1) := by decide +kernel
theorem dL_law_607 : decode cL_law 607 = .ok (.iadd, 1) := by decide +kernel
theorem dL_law_608 : decode cL_law 608 = .ok (.iaload, 1) := by decide +kernel
theorem dL_law_609 : decode cL_law 609 = .ok (.aload_n 0, 1) := by decide +kernel
theorem dL_law_610 : decode cL_law 610 = .ok (.iload_n 3, 1) := by decide +kernel
theorem dL_law_611 : decode cL_law 611 = .ok (.iconst 2, 1) := by decide +kernel
theorem dL_law_612 : decode cL_law 612 = .ok (.iadd, 1) := by decide +kernel
theorem dL_law_613 : decode cL_law 613 = .ok (.iaload, 1) := by decide +kernel
theorem dL_law_614 : decode cL_law 614 = .ok (.aload_n 0, 1) := by decide +kernel
theorem dL_law_615 : decode cL_law 615 = .ok (.iload_n 3, 1) := by decide +kernel
theorem dL_law_616 : decode cL_law 616 = .ok (.iconst 3, 1) := by decide +kernel
theorem dL_law_617 : decode cL_law 617 = .ok (.iadd, 1) := by decide +kernel
theorem dL_law_618 : decode cL_law 618 = .ok (.iaload, 1) := by decide +kernel
theorem dL_law_619 : decode cL_law 619 = .ok (.aload_n 0, 1) := by decide +kernel
theorem dL_law_620 : decode cL_law 620 = .ok (.iload_n 3, 1) := by decide +kernel
theorem dL_law_621 : decode cL_law 621 = .ok (.iconst 4, 1) := by decide +kernel
theorem dL_law_622 : decode cL_law 622 = .ok (.iadd, 1) := by decide +kernel
theorem dL_law_623 : decode cL_law 623 = .ok (.iaload, 1) := by decide +kernel
theorem dL_law_624 : decode cL_law 624 = .ok (.invokevirtual 82, 3) := by decide +kernel
theorem dL_law_627 : decode cL_law 627 = .ok (.if_icmp .eq 74, 3) := by decide +kernel
theorem dL_law_630 : decode cL_law 630 = .ok (.iconst 0, 1) := by decide +kernel
theorem dL_law_631 : decode cL_law 631 = .ok (.ireturn, 1) := by decide +kernel
theorem dL_law_632 : decode cL_law 632 = .ok (.aload_n 1, 1) := by decide +kernel
theorem dL_law_633 : decode cL_law 633 = .ok (.aload_n 0, 1) := by decide +kernel
theorem dL_law_634 : decode cL_law 634 = .ok (.iload_n 3, 1) := by decide +kernel
theorem dL_law_635 : decode cL_law 635 = .ok (.iconst 1, 1) := by decide +kernel
theorem dL_law_636 : decode cL_law 636 = .ok (.iadd, 1) := by decide +kernel
theorem dL_law_637 : decode cL_law 637 = .ok (.iaload, 1) := by decide +kernel
theorem dL_law_638 : decode cL_law 638 = .ok (.invokevirtual 83, 3) := by decide +kernel
theorem dL_law_641 : decode cL_law 641 = .ok (.aload_n 2, 1) := by decide +kernel
theorem dL_law_642 : decode cL_law 642 = .ok (.aload_n 0, 1) := by decide +kernel
theorem dL_law_643 : decode cL_law 643 = .ok (.iload_n 3, 1) := by decide +kernel
theorem dL_law_644 : decode cL_law 644 = .ok (.iconst 1, 1) := by decide +kernel
theorem dL_law_645 : decode cL_law 645 = .ok (.iadd, 1) := by decide +kernel
theorem dL_law_646 : decode cL_law 646 = .ok (.iaload, 1) := by decide +kernel
theorem dL_law_647 : decode cL_law 647 = .ok (.invokevirtual 86, 3) := by decide +kernel
theorem dL_law_650 : decode cL_law 650 = .ok (.if_icmp .eq 51, 3) := by decide +kernel
theorem dL_law_653 : decode cL_law 653 = .ok (.iconst 0, 1) := by decide +kernel
theorem dL_law_654 : decode cL_law 654 = .ok (.ireturn, 1) := by decide +kernel
theorem dL_law_655 : decode cL_law 655 = .ok (.aload_n 1, 1) := by decide +kernel
theorem dL_law_656 : decode cL_law 656 = .ok (.aload_n 0, 1) := by decide +kernel
theorem dL_law_657 : decode cL_law 657 = .ok (.iload_n 3, 1) := by decide +kernel
theorem dL_law_658 : decode cL_law 658 = .ok (.iconst 1, 1) := by decide +kernel
theorem dL_law_659 : decode cL_law 659 = .ok (.iadd, 1) := by decide +kernel
theorem dL_law_660 : decode cL_law 660 = .ok (.iaload, 1) := by decide +kernel
theorem dL_law_661 : decode cL_law 661 = .ok (.invokevirtual 87, 3) := by decide +kernel
theorem dL_law_664 : decode cL_law 664 = .ok (.aload_n 2, 1) := by decide +kernel
theorem dL_law_665 : decode cL_law 665 = .ok (.aload_n 0, 1) := by decide +kernel
theorem dL_law_666 : decode cL_law 666 = .ok (.iload_n 3, 1) := by decide +kernel
theorem dL_law_667 : decode cL_law 667 = .ok (.iconst 1, 1) := by decide +kernel
theorem dL_law_668 : decode cL_law 668 = .ok (.iadd, 1) := by decide +kernel
theorem dL_law_669 : decode cL_law 669 = .ok (.iaload, 1) := by decide +kernel
theorem dL_law_670 : decode cL_law 670 = .ok (.invokevirtual 90, 3) := by decide +kernel
theorem dL_law_673 : decode cL_law 673 = .ok (.if_icmp .eq 28, 3) := by decide +kernel
theorem dL_law_676 : decode cL_law 676 = .ok (.iconst 0, 1) := by decide +kernel
theorem dL_law_677 : decode cL_law 677 = .ok (.ireturn, 1) := by decide +kernel
theorem dL_law_678 : decode cL_law 678 = .ok (.aload_n 1, 1) := by decide +kernel
theorem dL_law_679 : decode cL_law 679 = .ok (.aload_n 0, 1) := by decide +kernel
theorem dL_law_680 : decode cL_law 680 = .ok (.iload_n 3, 1) := by decide +kernel
theorem dL_law_681 : decode cL_law 681 = .ok (.iconst 1, 1) := by decide +kernel
theorem dL_law_682 : decode cL_law 682 = .ok (.iadd, 1) := by decide +kernel
theorem dL_law_683 : decode cL_law 683 = .ok (.iaload, 1) := by decide +kernel
theorem dL_law_684 : decode cL_law 684 = .ok (.invokevirtual 91, 3) := by decide +kernel
theorem dL_law_687 : decode cL_law 687 = .ok (.aload_n 2, 1) := by decide +kernel
theorem dL_law_688 : decode cL_law 688 = .ok (.aload_n 0, 1) := by decide +kernel
theorem dL_law_689 : decode cL_law 689 = .ok (.iload_n 3, 1) := by decide +kernel
theorem dL_law_690 : decode cL_law 690 = .ok (.iconst 1, 1) := by decide +kernel
theorem dL_law_691 : decode cL_law 691 = .ok (.iadd, 1) := by decide +kernel
theorem dL_law_692 : decode cL_law 692 = .ok (.iaload, 1) := by decide +kernel
theorem dL_law_693 : decode cL_law 693 = .ok (.invokevirtual 94, 3) := by decide +kernel
theorem dL_law_696 : decode cL_law 696 = .ok (.if_icmp .eq 5, 3) := by decide +kernel
theorem dL_law_699 : decode cL_law 699 = .ok (.iconst 0, 1) := by decide +kernel
theorem dL_law_700 : decode cL_law 700 = .ok (.ireturn, 1) := by decide +kernel
theorem dL_law_701 : decode cL_law 701 = .ok (.iinc 3 6, 3) := by decide +kernel
theorem dL_law_704 : decode cL_law 704 = .ok (.goto (-686), 3) := by decide +kernel
theorem dL_law_707 : decode cL_law 707 = .ok (.iconst 1, 1) := by decide +kernel
theorem dL_law_708 : decode cL_law 708 = .ok (.ireturn, 1) := by decide +kernel
end
section
theorem dX10_init_0 : decode cX10_init 0 = .ok (.aload_n 0, 1) := by decide +kernel
theorem dX10_init_1 : decode cX10_init 1 = .ok (.invokespecial 1, 3) := by decide +kernel
theorem dX10_init_4 : decode cX10_init 4 = .ok (.aload_n 0, 1) := by decide +kernel
theorem dX10_init_5 : decode cX10_init 5 = .ok (.sipush 600, 3) := by decide +kernel
theorem dX10_init_8 : decode cX10_init 8 = .ok (.newarray .byte, 2) := by decide +kernel
theorem dX10_init_10 : decode cX10_init 10 = .ok (.putfield 7, 3) := by decide +kernel
theorem dX10_init_13 : decode cX10_init 13 = .ok (.aload_n 0, 1) := by decide +kernel
theorem dX10_init_14 : decode cX10_init 14 = .ok (.bipush 12, 2) := by decide +kernel
theorem dX10_init_16 : decode cX10_init 16 = .ok (.newarray .boolean, 2) := by decide +kernel
theorem dX10_init_18 : decode cX10_init 18 = .ok (.putfield 13, 3) := by decide +kernel
theorem dX10_init_21 : decode cX10_init 21 = .ok (.aload_n 0, 1) := by decide +kernel
theorem dX10_init_22 : decode cX10_init 22 = .ok (.iconst 2, 1) := by decide +kernel
theorem dX10_init_23 : decode cX10_init 23 = .ok (.bipush 8, 2) := by decide +kernel
theorem dX10_init_25 : decode cX10_init 25 = .ok (.multianewarray 17 2, 4) := by decide +kernel
theorem dX10_init_29 : decode cX10_init 29 = .ok (.putfield 19, 3) := by decide +kernel
theorem dX10_init_32 : decode cX10_init 32 = .ok (.aload_n 0, 1) := by decide +kernel
theorem dX10_init_33 : decode cX10_init 33 = .ok (.iconst 2, 1) := by decide +kernel
theorem dX10_init_34 : decode cX10_init 34 = .ok (.bipush 8, 2) := by decide +kernel
theorem dX10_init_36 : decode cX10_init 36 = .ok (.multianewarray 17 2, 4) := by decide +kernel
theorem dX10_init_40 : decode cX10_init 40 = .ok (.putfield 22, 3) := by decide +kernel
theorem dX10_init_43 : decode cX10_init 43 = .ok (.aload_n 0, 1) := by decide +kernel
theorem dX10_init_44 : decode cX10_init 44 = .ok (.iconst 2, 1) := by decide +kernel
theorem dX10_init_45 : decode cX10_init 45 = .ok (.bipush 8, 2) := by decide +kernel
theorem dX10_init_47 : decode cX10_init 47 = .ok (.multianewarray 25 2, 4) := by decide +kernel
theorem dX10_init_51 : decode cX10_init 51 = .ok (.putfield 27, 3) := by decide +kernel
theorem dX10_init_54 : decode cX10_init 54 = .ok (.aload_n 0, 1) := by decide +kernel
theorem dX10_init_55 : decode cX10_init 55 = .ok (.iconst 2, 1) := by decide +kernel
theorem dX10_init_56 : decode cX10_init 56 = .ok (.bipush 8, 2) := by decide +kernel
theorem dX10_init_58 : decode cX10_init 58 = .ok (.multianewarray 25 2, 4) := by decide +kernel
theorem dX10_init_62 : decode cX10_init 62 = .ok (.putfield 30, 3) := by decide +kernel
theorem dX10_init_65 : decode cX10_init 65 = .ok (.aload_n 0, 1) := by decide +kernel
theorem dX10_init_66 : decode cX10_init 66 = .ok (.iconst 2, 1) := by decide +kernel
theorem dX10_init_67 : decode cX10_init 67 = .ok (.newarray .int, 2) := by decide +kernel
theorem dX10_init_69 : decode cX10_init 69 = .ok (.dup, 1) := by decide +kernel
theorem dX10_init_70 : decode cX10_init 70 = .ok (.iconst 0, 1) := by decide +kernel
theorem dX10_init_71 : decode cX10_init 71 = .ok (.bipush 60, 2) := by decide +kernel
theorem dX10_init_73 : decode cX10_init 73 = .ok (.iastore, 1) := by decide +kernel
theorem dX10_init_74 : decode cX10_init 74 = .ok (.dup, 1) := by decide +kernel
theorem dX10_init_75 : decode cX10_init 75 = .ok (.iconst 1, 1) := by decide +kernel
theorem dX10_init_76 : decode cX10_init 76 = .ok (.bipush 60, 2) := by decide +kernel
theorem dX10_init_78 : decode cX10_init 78 = .ok (.iastore, 1) := by decide +kernel
theorem dX10_init_79 : decode cX10_init 79 = .ok (.putfield 33, 3) := by decide +kernel
theorem dX10_init_82 : decode cX10_init 82 = .ok (.aload_n 0, 1) := by decide +kernel
theorem dX10_init_83 : decode cX10_init 83 = .ok (.iconst 2, 1) := by decide +kernel
theorem dX10_init_84 : decode cX10_init 84 = .ok (.newarray .int, 2) := by decide +kernel
theorem dX10_init_86 : decode cX10_init 86 = .ok (.putfield 37, 3) := by decide +kernel
theorem dX10_init_89 : decode cX10_init 89 = .ok (.aload_n 0, 1) := by decide +kernel
theorem dX10_init_90 : decode cX10_init 90 = .ok (.iconst 2, 1) := by decide +kernel
theorem dX10_init_91 : decode cX10_init 91 = .ok (.newarray .boolean, 2) := by decide +kernel
theorem dX10_init_93 : decode cX10_init 93 = .ok (.putfield 40, 3) := by decide +kernel
theorem dX10_init_96 : decode cX10_init 96 = .ok (.aload_n 0, 1) := by decide +kernel
theorem dX10_init_97 : decode cX10_init 97 = .ok (.iconst 2, 1) := by decide +kernel
theorem dX10_init_98 : decode cX10_init 98 = .ok (.newarray .boolean, 2) := by decide +kernel
theorem dX10_init_100 : decode cX10_init 100 = .ok (.dup, 1) := by decide +kernel
theorem dX10_init_101 : decode cX10_init 101 = .ok (.iconst 0, 1) := by decide +kernel
theorem dX10_init_102 : decode cX10_init 102 = .ok (.iconst 1, 1) := by decide +kernel
theorem dX10_init_103 : decode cX10_init 103 = .ok (.bastore, 1) := by decide +kernel
theorem dX10_init_104 : decode cX10_init 104 = .ok (.dup, 1) := by decide +kernel
theorem dX10_init_105 : decode cX10_init 105 = .ok (.iconst 1, 1) := by decide +kernel
theorem dX10_init_106 : decode cX10_init 106 = .ok (.iconst 1, 1) := by decide +kernel
theorem dX10_init_107 : decode cX10_init 107 = .ok (.bastore, 1) := by decide +kernel
theorem dX10_init_108 : decode cX10_init 108 = .ok (.putfield 43, 3) := by decide +kernel
theorem dX10_init_111 : decode cX10_init 111 = .ok (.aload_n 0, 1) := by decide +kernel
theorem dX10_init_112 : decode cX10_init 112 = .ok (.bipush 24, 2) := by decide +kernel
theorem dX10_init_114 : decode cX10_init 114 = .ok (.newarray .int, 2) := by decide +kernel
theorem dX10_init_116 : decode cX10_init 116 = .ok (.putfield 46, 3) := by decide +kernel
theorem dX10_init_119 : decode cX10_init 119 = .ok (.aload_n 0, 1) := by decide +kernel
theorem dX10_init_120 : decode cX10_init 120 = .ok (.sipush 300, 3) := by decide +kernel
theorem dX10_init_123 : decode cX10_init 123 = .ok (.newarray .int, 2) := by decide +kernel
theorem dX10_init_125 : decode cX10_init 125 = .ok (.putfield 49, 3) := by decide +kernel
theorem dX10_init_128 : decode cX10_init 128 = .ok (.aload_n 0, 1) := by decide +kernel
theorem dX10_init_129 : decode cX10_init 129 = .ok (.sipush 300, 3) := by decide +kernel
theorem dX10_init_132 : decode cX10_init 132 = .ok (.newarray .int, 2) := by decide +kernel
theorem dX10_init_134 : decode cX10_init 134 = .ok (.putfield 52, 3) := by decide +kernel
theorem dX10_init_137 : decode cX10_init 137 = .ok (.aload_n 0, 1) := by decide +kernel
theorem dX10_init_138 : decode cX10_init 138 = .ok (.sipush 300, 3) := by decide +kernel
theorem dX10_init_141 : decode cX10_init 141 = .ok (.newarray .int, 2) := by decide +kernel
theorem dX10_init_143 : decode cX10_init 143 = .ok (.putfield 55, 3) := by decide +kernel
theorem dX10_init_146 : decode cX10_init 146 = .ok (.aload_n 0, 1) := by decide +kernel
theorem dX10_init_147 : decode cX10_init 147 = .ok (.sipush 300, 3) := by decide +kernel
theorem dX10_init_150 : decode cX10_init 150 = .ok (.newarray .int, 2) := by decide +kernel
theorem dX10_init_152 : decode cX10_init 152 = .ok (.putfield 58, 3) := by decide +kernel
theorem dX10_init_155 : decode cX10_init 155 = .ok (.aload_n 0, 1) := by decide +kernel
theorem dX10_init_156 : decode cX10_init 156 = .ok (.sipush 300, 3) := by decide +kernel
theorem dX10_init_159 : decode cX10_init 159 = .ok (.newarray .int, 2) := by decide +kernel
theorem dX10_init_161 : decode cX10_init 161 = .ok (.putfield 61, 3) := by decide +kernel
theorem dX10_init_164 : decode cX10_init 164 = .ok (.aload_n 0, 1) := by decide +kernel
theorem dX10_init_165 : decode cX10_init 165 = .ok (.iconst 2, 1) := by decide +kernel
theorem dX10_init_166 : decode cX10_init 166 = .ok (.sipush 300, 3) := by decide +kernel
theorem dX10_init_169 : decode cX10_init 169 = .ok (.multianewarray 17 2, 4) := by decide +kernel
theorem dX10_init_173 : decode cX10_init 173 = .ok (.putfield 64, 3) := by decide +kernel
theorem dX10_init_176 : decode cX10_init 176 = .ok (.aload_n 0, 1) := by decide +kernel
theorem dX10_init_177 : decode cX10_init 177 = .ok (.iconst 2, 1) := by decide +kernel
theorem dX10_init_178 : decode cX10_init 178 = .ok (.sipush 300, 3) := by decide +kernel
theorem dX10_init_181 : decode cX10_init 181 = .ok (.multianewarray 17 2, 4) := by decide +kernel
theorem dX10_init_185 : decode cX10_init 185 = .ok (.putfield 67, 3) := by decide +kernel
theorem dX10_init_188 : decode cX10_init 188 = .ok (.aload_n 0, 1) := by decide +kernel
theorem dX10_init_189 : decode cX10_init 189 = .ok (.iconst 2, 1) := by decide +kernel
theorem dX10_init_190 : decode cX10_init 190 = .ok (.sipush 300, 3) := by decide +kernel
theorem dX10_init_193 : decode cX10_init 193 = .ok (.multianewarray 25 2, 4) := by decide +kernel
theorem dX10_init_197 : decode cX10_init 197 = .ok (.putfield 70, 3) := by decide +kernel
theorem dX10_init_200 : decode cX10_init 200 = .ok (.aload_n 0, 1) := by decide +kernel
theorem dX10_init_201 : decode cX10_init 201 = .ok (.iconst (-1), 1) := by decide +kernel
theorem dX10_init_202 : decode cX10_init 202 = .ok (.putfield 73, 3) := by decide +kernel
theorem dX10_init_205 : decode cX10_init 205 = .ok (.aload_n 0, 1) := by decide +kernel
theorem dX10_init_206 : decode cX10_init 206 = .ok (.bipush 24, 2) := by decide +kernel
theorem dX10_init_208 : decode cX10_init 208 = .ok (.newarray .boolean, 2) := by decide +kernel
theorem dX10_init_210 : decode cX10_init 210 = .ok (.putfield 77, 3) := by decide +kernel
theorem dX10_init_213 : decode cX10_init 213 = .ok (.aload_n 0, 1) := by decide +kernel
theorem dX10_init_214 : decode cX10_init 214 = .ok (.bipush 24, 2) := by decide +kernel
theorem dX10_init_216 : decode cX10_init 216 = .ok (.newarray .int, 2) := by decide +kernel
theorem dX10_init_218 : decode cX10_init 218 = .ok (.putfield 80, 3) := by decide +kernel
theorem dX10_init_221 : decode cX10_init 221 = .ok (.aload_n 0, 1) := by decide +kernel
theorem dX10_init_222 : decode cX10_init 222 = .ok (.bipush 24, 2) := by decide +kernel
theorem dX10_init_224 : decode cX10_init 224 = .ok (.newarray .int, 2) := by decide +kernel
theorem dX10_init_226 : decode cX10_init 226 = .ok (.putfield 83, 3) := by decide +kernel
theorem dX10_init_229 : decode cX10_init 229 = .ok (.aload_n 0, 1) := by decide +kernel
theorem dX10_init_230 : decode cX10_init 230 = .ok (.bipush 12, 2) := by decide +kernel
theorem dX10_init_232 : decode cX10_init 232 = .ok (.newarray .int, 2) := by decide +kernel
theorem dX10_init_234 : decode cX10_init 234 = .ok (.putfield 86, 3) := by decide +kernel
theorem dX10_init_237 : decode cX10_init 237 = .ok (.aload_n 0, 1) := by decide +kernel
theorem dX10_init_238 : decode cX10_init 238 = .ok (.bipush 12, 2) := by decide +kernel
theorem dX10_init_240 : decode cX10_init 240 = .ok (.newarray .int, 2) := by decide +kernel
theorem dX10_init_242 : decode cX10_init 242 = .ok (.putfield 89, 3) := by decide +kernel
theorem dX10_init_245 : decode cX10_init 245 = .ok (.aload_n 0, 1) := by decide +kernel
theorem dX10_init_246 : decode cX10_init 246 = .ok (.bipush 12, 2) := by decide +kernel
theorem dX10_init_248 : decode cX10_init 248 = .ok (.newarray .int, 2) := by decide +kernel
theorem dX10_init_250 : decode cX10_init 250 = .ok (.putfield 92, 3) := by decide +kernel
theorem dX10_init_253 : decode cX10_init 253 = .ok (.aload_n 0, 1) := by decide +kernel
theorem dX10_init_254 : decode cX10_init 254 = .ok (.bipush 12, 2) := by decide +kernel
theorem dX10_init_256 : decode cX10_init 256 = .ok (.newarray .int, 2) := by decide +kernel
theorem dX10_init_258 : decode cX10_init 258 = .ok (.putfield 95, 3) := by decide +kernel
theorem dX10_init_261 : decode cX10_init 261 = .ok (.aload_n 0, 1) := by decide +kernel
theorem dX10_init_262 : decode cX10_init 262 = .ok (.bipush 12, 2) := by decide +kernel
theorem dX10_init_264 : decode cX10_init 264 = .ok (.newarray .int, 2) := by decide +kernel
theorem dX10_init_266 : decode cX10_init 266 = .ok (.putfield 98, 3) := by decide +kernel
theorem dX10_init_269 : decode cX10_init 269 = .ok (.aload_n 0, 1) := by decide +kernel
theorem dX10_init_270 : decode cX10_init 270 = .ok (.bipush 12, 2) := by decide +kernel
theorem dX10_init_272 : decode cX10_init 272 = .ok (.newarray .boolean, 2) := by decide +kernel
theorem dX10_init_274 : decode cX10_init 274 = .ok (.putfield 101, 3) := by decide +kernel
theorem dX10_init_277 : decode cX10_init 277 = .ok (.aload_n 0, 1) := by decide +kernel
theorem dX10_init_278 : decode cX10_init 278 = .ok (.bipush 12, 2) := by decide +kernel
theorem dX10_init_280 : decode cX10_init 280 = .ok (.newarray .boolean, 2) := by decide +kernel
theorem dX10_init_282 : decode cX10_init 282 = .ok (.putfield 104, 3) := by decide +kernel
theorem dX10_init_285 : decode cX10_init 285 = .ok (.aload_n 0, 1) := by decide +kernel
theorem dX10_init_286 : decode cX10_init 286 = .ok (.sipush 300, 3) := by decide +kernel
theorem dX10_init_289 : decode cX10_init 289 = .ok (.newarray .boolean, 2) := by decide +kernel
theorem dX10_init_291 : decode cX10_init 291 = .ok (.putfield 107, 3) := by decide +kernel
theorem dX10_init_294 : decode cX10_init 294 = .ok (.aload_n 0, 1) := by decide +kernel
theorem dX10_init_295 : decode cX10_init 295 = .ok (.bipush 60, 2) := by decide +kernel
theorem dX10_init_297 : decode cX10_init 297 = .ok (.newarray .int, 2) := by decide +kernel
theorem dX10_init_299 : decode cX10_init 299 = .ok (.putfield 110, 3) := by decide +kernel
theorem dX10_init_302 : decode cX10_init 302 = .ok (.aload_n 0, 1) := by decide +kernel
theorem dX10_init_303 : decode cX10_init 303 = .ok (.bipush 60, 2) := by decide +kernel
theorem dX10_init_305 : decode cX10_init 305 = .ok (.newarray .int, 2) := by decide +kernel
theorem dX10_init_307 : decode cX10_init 307 = .ok (.putfield 113, 3) := by decide +kernel
theorem dX10_init_310 : decode cX10_init 310 = .ok (.aload_n 0, 1) := by decide +kernel
theorem dX10_init_311 : decode cX10_init 311 = .ok (.sipush 400, 3) := by decide +kernel
theorem dX10_init_314 : decode cX10_init 314 = .ok (.newarray .int, 2) := by decide +kernel
theorem dX10_init_316 : decode cX10_init 316 = .ok (.putfield 116, 3) := by decide +kernel
theorem dX10_init_319 : decode cX10_init 319 = .ok (.aload_n 0, 1) := by decide +kernel
theorem dX10_init_320 : decode cX10_init 320 = .ok (.sipush 400, 3) := by decide +kernel
theorem dX10_init_323 : decode cX10_init 323 = .ok (.bipush 60, 2) := by decide +kernel
theorem dX10_init_325 : decode cX10_init 325 = .ok (.multianewarray 17 2, 4) := by decide +kernel
theorem dX10_init_329 : decode cX10_init 329 = .ok (.putfield 119, 3) := by decide +kernel
theorem dX10_init_332 : decode cX10_init 332 = .ok (.aload_n 0, 1) := by decide +kernel
theorem dX10_init_333 : decode cX10_init 333 = .ok (.bipush 24, 2) := by decide +kernel
theorem dX10_init_335 : decode cX10_init 335 = .ok (.newarray .int, 2) := by decide +kernel
theorem dX10_init_337 : decode cX10_init 337 = .ok (.putfield 122, 3) := by decide +kernel
theorem dX10_init_340 : decode cX10_init 340 = .ok (.aload_n 0, 1) := by decide +kernel
theorem dX10_init_341 : decode cX10_init 341 = .ok (.bipush 24, 2) := by decide +kernel
theorem dX10_init_343 : decode cX10_init 343 = .ok (.newarray .int, 2) := by decide +kernel
theorem dX10_init_345 : decode cX10_init 345 = .ok (.putfield 125, 3) := by decide +kernel
theorem dX10_init_348 : decode cX10_init 348 = .ok (.aload_n 0, 1) := by decide +kernel
theorem dX10_init_349 : decode cX10_init 349 = .ok (.bipush 6, 2) := by decide +kernel
theorem dX10_init_351 : decode cX10_init 351 = .ok (.newarray .int, 2) := by decide +kernel
theorem dX10_init_353 : decode cX10_init 353 = .ok (.dup, 1) := by decide +kernel
theorem dX10_init_354 : decode cX10_init 354 = .ok (.iconst 0, 1) := by decide +kernel
theorem dX10_init_355 : decode cX10_init 355 = .ok (.iconst (-1), 1) := by decide +kernel
theorem dX10_init_356 : decode cX10_init 356 = .ok (.iastore, 1) := by decide +kernel
theorem dX10_init_357 : decode cX10_init 357 = .ok (.dup, 1) := by decide +kernel
theorem dX10_init_358 : decode cX10_init 358 = .ok (.iconst 1, 1) := by decide +kernel
theorem dX10_init_359 : decode cX10_init 359 = .ok (.iconst (-1), 1) := by decide +kernel
theorem dX10_init_360 : decode cX10_init 360 = .ok (.iastore, 1) := by decide +kernel
theorem dX10_init_361 : decode cX10_init 361 = .ok (.dup, 1) := by decide +kernel
theorem dX10_init_362 : decode cX10_init 362 = .ok (.iconst 2, 1) := by decide +kernel
theorem dX10_init_363 : decode cX10_init 363 = .ok (.iconst (-1), 1) := by decide +kernel
theorem dX10_init_364 : decode cX10_init 364 = .ok (.iastore, 1) := by decide +kernel
theorem dX10_init_365 : decode cX10_init 365 = .ok (.dup, 1) := by decide +kernel
theorem dX10_init_366 : decode cX10_init 366 = .ok (.iconst 3, 1) := by decide +kernel
theorem dX10_init_367 : decode cX10_init 367 = .ok (.iconst (-1), 1) := by decide +kernel
theorem dX10_init_368 : decode cX10_init 368 = .ok (.iastore, 1) := by decide +kernel
theorem dX10_init_369 : decode cX10_init 369 = .ok (.dup, 1) := by decide +kernel
theorem dX10_init_370 : decode cX10_init 370 = .ok (.iconst 4, 1) := by decide +kernel
theorem dX10_init_371 : decode cX10_init 371 = .ok (.iconst (-1), 1) := by decide +kernel
theorem dX10_init_372 : decode cX10_init 372 = .ok (.iastore, 1) := by decide +kernel
theorem dX10_init_373 : decode cX10_init 373 = .ok (.dup, 1) := by decide +kernel
theorem dX10_init_374 : decode cX10_init 374 = .ok (.iconst 5, 1) := by decide +kernel
theorem dX10_init_375 : decode cX10_init 375 = .ok (.iconst (-1), 1) := by decide +kernel
theorem dX10_init_376 : decode cX10_init 376 = .ok (.iastore, 1) := by decide +kernel
theorem dX10_init_377 : decode cX10_init 377 = .ok (.putfield 128, 3) := by decide +kernel
theorem dX10_init_380 : decode cX10_init 380 = .ok (.aload_n 0, 1) := by decide +kernel
theorem dX10_init_381 : decode cX10_init 381 = .ok (.bipush 6, 2) := by decide +kernel
theorem dX10_init_383 : decode cX10_init 383 = .ok (.bipush 24, 2) := by decide +kernel
theorem dX10_init_385 : decode cX10_init 385 = .ok (.multianewarray 17 2, 4) := by decide +kernel
theorem dX10_init_389 : decode cX10_init 389 = .ok (.putfield 131, 3) := by decide +kernel
theorem dX10_init_392 : decode cX10_init 392 = .ok (.aload_n 0, 1) := by decide +kernel
theorem dX10_init_393 : decode cX10_init 393 = .ok (.bipush 6, 2) := by decide +kernel
theorem dX10_init_395 : decode cX10_init 395 = .ok (.bipush 24, 2) := by decide +kernel
theorem dX10_init_397 : decode cX10_init 397 = .ok (.multianewarray 25 2, 4) := by decide +kernel
theorem dX10_init_401 : decode cX10_init 401 = .ok (.putfield 134, 3) := by decide +kernel
theorem dX10_init_404 : decode cX10_init 404 = .ok (.aload_n 0, 1) := by decide +kernel
theorem dX10_init_405 : decode cX10_init 405 = .ok (.bipush 24, 2) := by decide +kernel
theorem dX10_init_407 : decode cX10_init 407 = .ok (.newarray .boolean, 2) := by decide +kernel
theorem dX10_init_409 : decode cX10_init 409 = .ok (.putfield 137, 3) := by decide +kernel
theorem dX10_init_412 : decode cX10_init 412 = .ok (.aload_n 0, 1) := by decide +kernel
theorem dX10_init_413 : decode cX10_init 413 = .ok (.invokevirtual 140, 3) := by decide +kernel
theorem dX10_init_416 : decode cX10_init 416 = .ok (.return_, 1) := by decide +kernel
theorem dX10_in_0 : decode cX10_in 0 = .ok (.iload_n 0, 1) := by decide +kernel
theorem dX10_in_1 : decode cX10_in 1 = .ok (.iload_n 1, 1) := by decide +kernel
theorem dX10_in_2 : decode cX10_in 2 = .ok (.if_icmp .lt 12, 3) := by decide +kernel
theorem dX10_in_5 : decode cX10_in 5 = .ok (.iload_n 0, 1) := by decide +kernel
theorem dX10_in_6 : decode cX10_in 6 = .ok (.iload_n 2, 1) := by decide +kernel
theorem dX10_in_7 : decode cX10_in 7 = .ok (.if_icmp .gt 7, 3) := by decide +kernel
theorem dX10_in_10 : decode cX10_in 10 = .ok (.iconst 1, 1) := by decide +kernel
theorem dX10_in_11 : decode cX10_in 11 = .ok (.goto 4, 3) := by decide +kernel
theorem dX10_in_14 : decode cX10_in 14 = .ok (.iconst 0, 1) := by decide +kernel
theorem dX10_in_15 : decode cX10_in 15 = .ok (.ireturn, 1) := by decide +kernel
theorem dX10_feed_0 : decode cX10_feed 0 = .ok (.aload_n 0, 1) := by decide +kernel
theorem dX10_feed_1 : decode cX10_feed 1 = .ok (.getfield 146, 3) := by decide +kernel
theorem dX10_feed_4 : decode cX10_feed 4 = .ok (.bipush 20, 2) := by decide +kernel
theorem dX10_feed_6 : decode cX10_feed 6 = .ok (.iadd, 1) := by decide +kernel
theorem dX10_feed_7 : decode cX10_feed 7 = .ok (.sipush 600, 3) := by decide +kernel
theorem dX10_feed_10 : decode cX10_feed 10 = .ok (.if_icmp .le 5, 3) := by decide +kernel
theorem dX10_feed_13 : decode cX10_feed 13 = .ok (.iconst (-1), 1) := by decide +kernel
theorem dX10_feed_14 : decode cX10_feed 14 = .ok (.ireturn, 1) := by decide +kernel
theorem dX10_feed_15 : decode cX10_feed 15 = .ok (.aload_n 0, 1) := by decide +kernel
theorem dX10_feed_16 : decode cX10_feed 16 = .ok (.iload_n 1, 1) := by decide +kernel
theorem dX10_feed_17 : decode cX10_feed 17 = .ok (.invokevirtual 149, 3) := by decide +kernel
theorem dX10_feed_20 : decode cX10_feed 20 = .ok (.aload_n 0, 1) := by decide +kernel
theorem dX10_feed_21 : decode cX10_feed 21 = .ok (.iload_n 2, 1) := by decide +kernel
theorem dX10_feed_22 : decode cX10_feed 22 = .ok (.invokevirtual 149, 3) := by decide +kernel
theorem dX10_feed_25 : decode cX10_feed 25 = .ok (.aload_n 0, 1) := by decide +kernel
theorem dX10_feed_26 : decode cX10_feed 26 = .ok (.iload_n 3, 1) := by decide +kernel
theorem dX10_feed_27 : decode cX10_feed 27 = .ok (.invokevirtual 149, 3) := by decide +kernel
theorem dX10_feed_30 : decode cX10_feed 30 = .ok (.aload_n 0, 1) := by decide +kernel
theorem dX10_feed_31 : decode cX10_feed 31 = .ok (.iload 4, 2) := by decide +kernel
theorem dX10_feed_33 : decode cX10_feed 33 = .ok (.invokevirtual 149, 3) := by decide +kernel
theorem dX10_feed_36 : decode cX10_feed 36 = .ok (.aload_n 0, 1) := by decide +kernel
theorem dX10_feed_37 : decode cX10_feed 37 = .ok (.iload 5, 2) := by decide +kernel
theorem dX10_feed_39 : decode cX10_feed 39 = .ok (.invokevirtual 149, 3) := by decide +kernel
theorem dX10_feed_42 : decode cX10_feed 42 = .ok (.aload_n 0, 1) := by decide +kernel
theorem dX10_feed_43 : decode cX10_feed 43 = .ok (.getfield 146, 3) := by decide +kernel
theorem dX10_feed_46 : decode cX10_feed 46 = .ok (.ireturn, 1) := by decide +kernel
theorem dX10_put_0 : decode cX10_put 0 = .ok (.bipush 24, 2) := by decide +kernel
theorem dX10_put_2 : decode cX10_put 2 = .ok (.istore_n 2, 1) := by decide +kernel
theorem dX10_put_3 : decode cX10_put 3 = .ok (.iload_n 2, 1) := by decide +kernel
theorem dX10_put_4 : decode cX10_put 4 = .ok (.ifCond .lt 32, 3) := by decide +kernel
theorem dX10_put_7 : decode cX10_put 7 = .ok (.aload_n 0, 1) := by decide +kernel
theorem dX10_put_8 : decode cX10_put 8 = .ok (.getfield 7, 3) := by decide +kernel
theorem dX10_put_11 : decode cX10_put 11 = .ok (.aload_n 0, 1) := by decide +kernel
theorem dX10_put_12 : decode cX10_put 12 = .ok (.getfield 146, 3) := by decide +kernel
theorem dX10_put_15 : decode cX10_put 15 = .ok (.iload_n 1, 1) := by decide +kernel
theorem dX10_put_16 : decode cX10_put 16 = .ok (.iload_n 2, 1) := by decide +kernel
theorem dX10_put_17 : decode cX10_put 17 = .ok (.ishr, 1) := by decide +kernel
theorem dX10_put_18 : decode cX10_put 18 = .ok (.i2b, 1) := by decide +kernel
theorem dX10_put_19 : decode cX10_put 19 = .ok (.bastore, 1) := by decide +kernel
theorem dX10_put_20 : decode cX10_put 20 = .ok (.aload_n 0, 1) := by decide +kernel
theorem dX10_put_21 : decode cX10_put 21 = .ok (.dup, 1) := by decide +kernel
theorem dX10_put_22 : decode cX10_put 22 = .ok (.getfield 146, 3) := by decide +kernel
theorem dX10_put_25 : decode cX10_put 25 = .ok (.iconst 1, 1) := by decide +kernel
theorem dX10_put_26 : decode cX10_put 26 = .ok (.iadd, 1) := by decide +kernel
theorem dX10_put_27 : decode cX10_put 27 = .ok (.putfield 146, 3) := by decide +kernel
theorem dX10_put_30 : decode cX10_put 30 = .ok (.iinc 2 (-8), 3) := by decide +kernel
theorem dX10_put_33 : decode cX10_put 33 = .ok (.goto (-30), 3) := by decide +kernel
theorem dX10_put_36 : decode cX10_put 36 = .ok (.return_, 1) := by decide +kernel
theorem dX10_end_0 : decode cX10_end 0 = .ok (.iload_n 1, 1) := by decide +kernel
theorem dX10_end_1 : decode cX10_end 1 = .ok (.ifCond .lt 11, 3) := by decide +kernel
theorem dX10_end_4 : decode cX10_end 4 = .ok (.iload_n 1, 1) := by decide +kernel
theorem dX10_end_5 : decode cX10_end 5 = .ok (.aload_n 0, 1) := by decide +kernel
theorem dX10_end_6 : decode cX10_end 6 = .ok (.getfield 146, 3) := by decide +kernel
theorem dX10_end_9 : decode cX10_end 9 = .ok (.if_icmp .le 5, 3) := by decide +kernel
theorem dX10_end_12 : decode cX10_end 12 = .ok (.iconst (-1), 1) := by decide +kernel
theorem dX10_end_13 : decode cX10_end 13 = .ok (.ireturn, 1) := by decide +kernel
theorem dX10_end_14 : decode cX10_end 14 = .ok (.aload_n 0, 1) := by decide +kernel
theorem dX10_end_15 : decode cX10_end 15 = .ok (.iload_n 1, 1) := by decide +kernel
theorem dX10_end_16 : decode cX10_end 16 = .ok (.putfield 146, 3) := by decide +kernel
theorem dX10_end_19 : decode cX10_end 19 = .ok (.iload_n 1, 1) := by decide +kernel
theorem dX10_end_20 : decode cX10_end 20 = .ok (.ireturn, 1) := by decide +kernel
theorem dX10_fails_0 : decode cX10_fails 0 = .ok (.aload_n 0, 1) := by decide +kernel
theorem dX10_fails_1 : decode cX10_fails 1 = .ok (.getfield 153, 3) := by decide +kernel
theorem dX10_fails_4 : decode cX10_fails 4 = .ok (.ifCond .ne 12, 3) := by decide +kernel
theorem dX10_fails_7 : decode cX10_fails 7 = .ok (.aload_n 0, 1) := by decide +kernel
theorem dX10_fails_8 : decode cX10_fails 8 = .ok (.iload_n 1, 1) := by decide +kernel
theorem dX10_fails_9 : decode cX10_fails 9 = .ok (.iconst 4, 1) := by decide +kernel
theorem dX10_fails_10 : decode cX10_fails 10 = .ok (.iload_n 2, 1) := by decide +kernel
theorem dX10_fails_11 : decode cX10_fails 11 = .ok (.imul, 1) := by decide +kernel
theorem dX10_fails_12 : decode cX10_fails 12 = .ok (.iadd, 1) := by decide +kernel
theorem dX10_fails_13 : decode cX10_fails 13 = .ok (.putfield 153, 3) := by decide +kernel
theorem dX10_fails_16 : decode cX10_fails 16 = .ok (.return_, 1) := by decide +kernel
theorem dX10_isEnd_0 : decode cX10_isEnd 0 = .ok (.aload_n 0, 1) := by decide +kernel
theorem dX10_isEnd_1 : decode cX10_isEnd 1 = .ok (.getfield 156, 3) := by decide +kernel
theorem dX10_isEnd_4 : decode cX10_isEnd 4 = .ok (.aload_n 0, 1) := by decide +kernel
theorem dX10_isEnd_5 : decode cX10_isEnd 5 = .ok (.getfield 146, 3) := by decide +kernel
theorem dX10_isEnd_8 : decode cX10_isEnd 8 = .ok (.if_icmp .ge 30, 3) := by decide +kernel
theorem dX10_isEnd_11 : decode cX10_isEnd 11 = .ok (.aload_n 0, 1) := by decide +kernel
theorem dX10_isEnd_12 : decode cX10_isEnd 12 = .ok (.getfield 7, 3) := by decide +kernel
theorem dX10_isEnd_15 : decode cX10_isEnd 15 = .ok (.aload_n 0, 1) := by decide +kernel
theorem dX10_isEnd_16 : decode cX10_isEnd 16 = .ok (.getfield 156, 3) := by decide +kernel
theorem dX10_isEnd_19 : decode cX10_isEnd 19 = .ok (.baload, 1) := by decide +kernel
theorem dX10_isEnd_20 : decode cX10_isEnd 20 = .ok (.bipush 32, 2) := by decide +kernel
theorem dX10_isEnd_22 : decode cX10_isEnd 22 = .ok (.if_icmp .ne 16, 3) := by decide +kernel
theorem dX10_isEnd_25 : decode cX10_isEnd 25 = .ok (.aload_n 0, 1) := by decide +kernel
theorem dX10_isEnd_26 : decode cX10_isEnd 26 = .ok (.dup, 1) := by decide +kernel
theorem dX10_isEnd_27 : decode cX10_isEnd 27 = .ok (.getfield 156, 3) := by decide +kernel
theorem dX10_isEnd_30 : decode cX10_isEnd 30 = .ok (.iconst 1, 1) := by decide +kernel
theorem dX10_isEnd_31 : decode cX10_isEnd 31 = .ok (.iadd, 1) := by decide +kernel
theorem dX10_isEnd_32 : decode cX10_isEnd 32 = .ok (.putfield 156, 3) := by decide +kernel
theorem dX10_isEnd_35 : decode cX10_isEnd 35 = .ok (.goto (-35), 3) := by decide +kernel
theorem dX10_isEnd_38 : decode cX10_isEnd 38 = .ok (.aload_n 0, 1) := by decide +kernel
theorem dX10_isEnd_39 : decode cX10_isEnd 39 = .ok (.aload_n 0, 1) := by decide +kernel
theorem dX10_isEnd_40 : decode cX10_isEnd 40 = .ok (.getfield 156, 3) := by decide +kernel
theorem dX10_isEnd_43 : decode cX10_isEnd 43 = .ok (.putfield 159, 3) := by decide +kernel
theorem dX10_isEnd_46 : decode cX10_isEnd 46 = .ok (.aload_n 0, 1) := by decide +kernel
theorem dX10_isEnd_47 : decode cX10_isEnd 47 = .ok (.getfield 156, 3) := by decide +kernel
theorem dX10_isEnd_50 : decode cX10_isEnd 50 = .ok (.aload_n 0, 1) := by decide +kernel
theorem dX10_isEnd_51 : decode cX10_isEnd 51 = .ok (.getfield 146, 3) := by decide +kernel
theorem dX10_isEnd_54 : decode cX10_isEnd 54 = .ok (.if_icmp .ne 7, 3) := by decide +kernel
theorem dX10_isEnd_57 : decode cX10_isEnd 57 = .ok (.iconst 1, 1) := by decide +kernel
theorem dX10_isEnd_58 : decode cX10_isEnd 58 = .ok (.goto 4, 3) := by decide +kernel
theorem dX10_isEnd_61 : decode cX10_isEnd 61 = .ok (.iconst 0, 1) := by decide +kernel
theorem dX10_isEnd_62 : decode cX10_isEnd 62 = .ok (.ireturn, 1) := by decide +kernel
theorem dX10_isLetter_0 : decode cX10_isLetter 0 = .ok (.aload_n 0, 1) := by decide +kernel
theorem dX10_isLetter_1 : decode cX10_isLetter 1 = .ok (.getfield 156, 3) := by decide +kernel
theorem dX10_isLetter_4 : decode cX10_isLetter 4 = .ok (.aload_n 0, 1) := by decide +kernel
theorem dX10_isLetter_5 : decode cX10_isLetter 5 = .ok (.getfield 146, 3) := by decide +kernel
theorem dX10_isLetter_8 : decode cX10_isLetter 8 = .ok (.if_icmp .ge 35, 3) := by decide +kernel
theorem dX10_isLetter_11 : decode cX10_isLetter 11 = .ok (.aload_n 0, 1) := by decide +kernel
theorem dX10_isLetter_12 : decode cX10_isLetter 12 = .ok (.getfield 7, 3) := by decide +kernel
theorem dX10_isLetter_15 : decode cX10_isLetter 15 = .ok (.aload_n 0, 1) := by decide +kernel
theorem dX10_isLetter_16 : decode cX10_isLetter 16 = .ok (.getfield 156, 3) := by decide +kernel
theorem dX10_isLetter_19 : decode cX10_isLetter 19 = .ok (.baload, 1) := by decide +kernel
theorem dX10_isLetter_20 : decode cX10_isLetter 20 = .ok (.bipush 97, 2) := by decide +kernel
theorem dX10_isLetter_22 : decode cX10_isLetter 22 = .ok (.if_icmp .lt 21, 3) := by decide +kernel
theorem dX10_isLetter_25 : decode cX10_isLetter 25 = .ok (.aload_n 0, 1) := by decide +kernel
theorem dX10_isLetter_26 : decode cX10_isLetter 26 = .ok (.getfield 7, 3) := by decide +kernel
theorem dX10_isLetter_29 : decode cX10_isLetter 29 = .ok (.aload_n 0, 1) := by decide +kernel
theorem dX10_isLetter_30 : decode cX10_isLetter 30 = .ok (.getfield 156, 3) := by decide +kernel
theorem dX10_isLetter_33 : decode cX10_isLetter 33 = .ok (.baload, 1) := by decide +kernel
theorem dX10_isLetter_34 : decode cX10_isLetter 34 = .ok (.bipush 122, 2) := by decide +kernel
theorem dX10_isLetter_36 : decode cX10_isLetter 36 = .ok (.if_icmp .gt 7, 3) := by decide +kernel
theorem dX10_isLetter_39 : decode cX10_isLetter 39 = .ok (.iconst 1, 1) := by decide +kernel
theorem dX10_isLetter_40 : decode cX10_isLetter 40 = .ok (.goto 4, 3) := by decide +kernel
theorem dX10_isLetter_43 : decode cX10_isLetter 43 = .ok (.iconst 0, 1) := by decide +kernel
theorem dX10_isLetter_44 : decode cX10_isLetter 44 = .ok (.ireturn, 1) := by decide +kernel
theorem dX10_word_0 : decode cX10_word 0 = .ok (.aload_n 0, 1) := by decide +kernel
theorem dX10_word_1 : decode cX10_word 1 = .ok (.invokevirtual 162, 3) := by decide +kernel
theorem dX10_word_4 : decode cX10_word 4 = .ok (.pop, 1) := by decide +kernel
theorem dX10_word_5 : decode cX10_word 5 = .ok (.aload_n 0, 1) := by decide +kernel
theorem dX10_word_6 : decode cX10_word 6 = .ok (.invokevirtual 166, 3) := by decide +kernel
theorem dX10_word_9 : decode cX10_word 9 = .ok (.ifCond .eq 16, 3) := by decide +kernel
theorem dX10_word_12 : decode cX10_word 12 = .ok (.aload_n 0, 1) := by decide +kernel
theorem dX10_word_13 : decode cX10_word 13 = .ok (.dup, 1) := by decide +kernel
theorem dX10_word_14 : decode cX10_word 14 = .ok (.getfield 156, 3) := by decide +kernel
theorem dX10_word_17 : decode cX10_word 17 = .ok (.iconst 1, 1) := by decide +kernel
theorem dX10_word_18 : decode cX10_word 18 = .ok (.iadd, 1) := by decide +kernel
theorem dX10_word_19 : decode cX10_word 19 = .ok (.putfield 156, 3) := by decide +kernel
theorem dX10_word_22 : decode cX10_word 22 = .ok (.goto (-17), 3) := by decide +kernel
theorem dX10_word_25 : decode cX10_word 25 = .ok (.aload_n 0, 1) := by decide +kernel
theorem dX10_word_26 : decode cX10_word 26 = .ok (.getfield 156, 3) := by decide +kernel
theorem dX10_word_29 : decode cX10_word 29 = .ok (.aload_n 0, 1) := by decide +kernel
theorem dX10_word_30 : decode cX10_word 30 = .ok (.getfield 159, 3) := by decide +kernel
theorem dX10_word_33 : decode cX10_word 33 = .ok (.if_icmp .ne 12, 3) := by decide +kernel
theorem dX10_word_36 : decode cX10_word 36 = .ok (.aload_n 0, 1) := by decide +kernel
theorem dX10_word_37 : decode cX10_word 37 = .ok (.iconst 1, 1) := by decide +kernel
theorem dX10_word_38 : decode cX10_word 38 = .ok (.aload_n 0, 1) := by decide +kernel
theorem dX10_word_39 : decode cX10_word 39 = .ok (.getfield 159, 3) := by decide +kernel
theorem dX10_word_42 : decode cX10_word 42 = .ok (.invokevirtual 169, 3) := by decide +kernel
theorem dX10_word_45 : decode cX10_word 45 = .ok (.return_, 1) := by decide +kernel
theorem dX10_is_0 : decode cX10_is 0 = .ok (.aload_n 0, 1) := by decide +kernel
theorem dX10_is_1 : decode cX10_is 1 = .ok (.getfield 156, 3) := by decide +kernel
theorem dX10_is_4 : decode cX10_is 4 = .ok (.aload_n 0, 1) := by decide +kernel
theorem dX10_is_5 : decode cX10_is 5 = .ok (.getfield 159, 3) := by decide +kernel
theorem dX10_is_8 : decode cX10_is 8 = .ok (.isub, 1) := by decide +kernel
theorem dX10_is_9 : decode cX10_is 9 = .ok (.aload_n 1, 1) := by decide +kernel
theorem dX10_is_10 : decode cX10_is 10 = .ok (.invokevirtual 173, 3) := by decide +kernel
theorem dX10_is_13 : decode cX10_is 13 = .ok (.if_icmp .ne 7, 3) := by decide +kernel
theorem dX10_is_16 : decode cX10_is 16 = .ok (.iconst 1, 1) := by decide +kernel
theorem dX10_is_17 : decode cX10_is 17 = .ok (.goto 4, 3) := by decide +kernel
theorem dX10_is_20 : decode cX10_is 20 = .ok (.iconst 0, 1) := by decide +kernel
theorem dX10_is_21 : decode cX10_is 21 = .ok (.istore_n 2, 1) := by decide +kernel
theorem dX10_is_22 : decode cX10_is 22 = .ok (.iconst 0, 1) := by decide +kernel
theorem dX10_is_23 : decode cX10_is 23 = .ok (.istore_n 3, 1) := by decide +kernel
theorem dX10_is_24 : decode cX10_is 24 = .ok (.iload_n 3, 1) := by decide +kernel
theorem dX10_is_25 : decode cX10_is 25 = .ok (.aload_n 1, 1) := by decide +kernel
theorem dX10_is_26 : decode cX10_is 26 = .ok (.invokevirtual 173, 3) := by decide +kernel
theorem dX10_is_29 : decode cX10_is 29 = .ok (.if_icmp .ge 38, 3) := by decide +kernel
theorem dX10_is_32 : decode cX10_is 32 = .ok (.iload_n 2, 1) := by decide +kernel
theorem dX10_is_33 : decode cX10_is 33 = .ok (.ifCond .eq 34, 3) := by decide +kernel
theorem dX10_is_36 : decode cX10_is 36 = .ok (.aload_n 0, 1) := by decide +kernel
theorem dX10_is_37 : decode cX10_is 37 = .ok (.getfield 7, 3) := by decide +kernel
theorem dX10_is_40 : decode cX10_is 40 = .ok (.aload_n 0, 1) := by decide +kernel
theorem dX10_is_41 : decode cX10_is 41 = .ok (.getfield 159, 3) := by decide +kernel
theorem dX10_is_44 : decode cX10_is 44 = .ok (.iload_n 3, 1) := by decide +kernel
theorem dX10_is_45 : decode cX10_is 45 = .ok (.iadd, 1) := by decide +kernel
theorem dX10_is_46 : decode cX10_is 46 = .ok (.baload, 1) := by decide +kernel
theorem dX10_is_47 : decode cX10_is 47 = .ok (.aload_n 1, 1) := by decide +kernel
theorem dX10_is_48 : decode cX10_is 48 = .ok (.iload_n 3, 1) := by decide +kernel
theorem dX10_is_49 : decode cX10_is 49 = .ok (.invokevirtual 179, 3) := by decide +kernel
theorem dX10_is_52 : decode cX10_is 52 = .ok (.if_icmp .ne 7, 3) := by decide +kernel
theorem dX10_is_55 : decode cX10_is 55 = .ok (.iconst 1, 1) := by decide +kernel
theorem dX10_is_56 : decode cX10_is 56 = .ok (.goto 4, 3) := by decide +kernel
theorem dX10_is_59 : decode cX10_is 59 = .ok (.iconst 0, 1) := by decide +kernel
theorem dX10_is_60 : decode cX10_is 60 = .ok (.istore_n 2, 1) := by decide +kernel
theorem dX10_is_61 : decode cX10_is 61 = .ok (.iinc 3 1, 3) := by decide +kernel
theorem dX10_is_64 : decode cX10_is 64 = .ok (.goto (-40), 3) := by decide +kernel
theorem dX10_is_67 : decode cX10_is 67 = .ok (.iload_n 2, 1) := by decide +kernel
theorem dX10_is_68 : decode cX10_is 68 = .ok (.ireturn, 1) := by decide +kernel
theorem dX10_number_0 : decode cX10_number 0 = .ok (.aload_n 0, 1) := by decide +kernel
theorem dX10_number_1 : decode cX10_number 1 = .ok (.getfield 153, 3) := by decide +kernel
theorem dX10_number_4 : decode cX10_number 4 = .ok (.ifCond .le 5, 3) := by decide +kernel
theorem dX10_number_7 : decode cX10_number 7 = .ok (.iconst 0, 1) := by decide +kernel
theorem dX10_number_8 : decode cX10_number 8 = .ok (.ireturn, 1) := by decide +kernel
theorem dX10_number_9 : decode cX10_number 9 = .ok (.aload_n 0, 1) := by decide +kernel
theorem dX10_number_10 : decode cX10_number 10 = .ok (.invokevirtual 162, 3) := by decide +kernel
theorem dX10_number_13 : decode cX10_number 13 = .ok (.pop, 1) := by decide +kernel
theorem dX10_number_14 : decode cX10_number 14 = .ok (.iconst 0, 1) := by decide +kernel
theorem dX10_number_15 : decode cX10_number 15 = .ok (.istore_n 3, 1) := by decide +kernel
theorem dX10_number_16 : decode cX10_number 16 = .ok (.aload_n 0, 1) := by decide +kernel
theorem dX10_number_17 : decode cX10_number 17 = .ok (.getfield 156, 3) := by decide +kernel
theorem dX10_number_20 : decode cX10_number 20 = .ok (.aload_n 0, 1) := by decide +kernel
theorem dX10_number_21 : decode cX10_number 21 = .ok (.getfield 146, 3) := by decide +kernel
theorem dX10_number_24 : decode cX10_number 24 = .ok (.if_icmp .ge 80, 3) := by decide +kernel
theorem dX10_number_27 : decode cX10_number 27 = .ok (.aload_n 0, 1) := by decide +kernel
theorem dX10_number_28 : decode cX10_number 28 = .ok (.getfield 7, 3) := by decide +kernel
theorem dX10_number_31 : decode cX10_number 31 = .ok (.aload_n 0, 1) := by decide +kernel
theorem dX10_number_32 : decode cX10_number 32 = .ok (.getfield 156, 3) := by decide +kernel
theorem dX10_number_35 : decode cX10_number 35 = .ok (.baload, 1) := by decide +kernel
theorem dX10_number_36 : decode cX10_number 36 = .ok (.bipush 48, 2) := by decide +kernel
theorem dX10_number_38 : decode cX10_number 38 = .ok (.if_icmp .lt 66, 3) := by decide +kernel
theorem dX10_number_41 : decode cX10_number 41 = .ok (.aload_n 0, 1) := by decide +kernel
theorem dX10_number_42 : decode cX10_number 42 = .ok (.getfield 7, 3) := by decide +kernel
theorem dX10_number_45 : decode cX10_number 45 = .ok (.aload_n 0, 1) := by decide +kernel
theorem dX10_number_46 : decode cX10_number 46 = .ok (.getfield 156, 3) := by decide +kernel
theorem dX10_number_49 : decode cX10_number 49 = .ok (.baload, 1) := by decide +kernel
theorem dX10_number_50 : decode cX10_number 50 = .ok (.bipush 57, 2) := by decide +kernel
theorem dX10_number_52 : decode cX10_number 52 = .ok (.if_icmp .gt 52, 3) := by decide +kernel
theorem dX10_number_55 : decode cX10_number 55 = .ok (.aload_n 0, 1) := by decide +kernel
theorem dX10_number_56 : decode cX10_number 56 = .ok (.getfield 156, 3) := by decide +kernel
theorem dX10_number_59 : decode cX10_number 59 = .ok (.aload_n 0, 1) := by decide +kernel
theorem dX10_number_60 : decode cX10_number 60 = .ok (.getfield 159, 3) := by decide +kernel
theorem dX10_number_63 : decode cX10_number 63 = .ok (.isub, 1) := by decide +kernel
theorem dX10_number_64 : decode cX10_number 64 = .ok (.iconst 4, 1) := by decide +kernel
theorem dX10_number_65 : decode cX10_number 65 = .ok (.if_icmp .ge 23, 3) := by decide +kernel
theorem dX10_number_68 : decode cX10_number 68 = .ok (.bipush 10, 2) := by decide +kernel
theorem dX10_number_70 : decode cX10_number 70 = .ok (.iload_n 3, 1) := by decide +kernel
theorem dX10_number_71 : decode cX10_number 71 = .ok (.imul, 1) := by decide +kernel
theorem dX10_number_72 : decode cX10_number 72 = .ok (.aload_n 0, 1) := by decide +kernel
theorem dX10_number_73 : decode cX10_number 73 = .ok (.getfield 7, 3) := by decide +kernel
theorem dX10_number_76 : decode cX10_number 76 = .ok (.aload_n 0, 1) := by decide +kernel
theorem dX10_number_77 : decode cX10_number 77 = .ok (.getfield 156, 3) := by decide +kernel
theorem dX10_number_80 : decode cX10_number 80 = .ok (.baload, 1) := by decide +kernel
theorem dX10_number_81 : decode cX10_number 81 = .ok (.iadd, 1) := by decide +kernel
theorem dX10_number_82 : decode cX10_number 82 = .ok (.bipush 48, 2) := by decide +kernel
theorem dX10_number_84 : decode cX10_number 84 = .ok (.isub, 1) := by decide +kernel
theorem dX10_number_85 : decode cX10_number 85 = .ok (.goto 5, 3) := by decide +kernel
theorem dX10_number_88 : decode cX10_number 88 = .ok (.ldc 183, 2) := by decide +kernel
theorem dX10_number_90 : decode cX10_number 90 = .ok (.istore_n 3, 1) := by decide +kernel
theorem dX10_number_91 : decode cX10_number 91 = .ok (.aload_n 0, 1) := by decide +kernel
theorem dX10_number_92 : decode cX10_number 92 = .ok (.dup, 1) := by decide +kernel
theorem dX10_number_93 : decode cX10_number 93 = .ok (.getfield 156, 3) := by decide +kernel
theorem dX10_number_96 : decode cX10_number 96 = .ok (.iconst 1, 1) := by decide +kernel
theorem dX10_number_97 : decode cX10_number 97 = .ok (.iadd, 1) := by decide +kernel
theorem dX10_number_98 : decode cX10_number 98 = .ok (.putfield 156, 3) := by decide +kernel
theorem dX10_number_101 : decode cX10_number 101 = .ok (.goto (-85), 3) := by decide +kernel
theorem dX10_number_104 : decode cX10_number 104 = .ok (.aload_n 0, 1) := by decide +kernel
theorem dX10_number_105 : decode cX10_number 105 = .ok (.getfield 156, 3) := by decide +kernel
theorem dX10_number_108 : decode cX10_number 108 = .ok (.aload_n 0, 1) := by decide +kernel
theorem dX10_number_109 : decode cX10_number 109 = .ok (.getfield 159, 3) := by decide +kernel
theorem dX10_number_112 : decode cX10_number 112 = .ok (.if_icmp .ne 15, 3) := by decide +kernel
theorem dX10_number_115 : decode cX10_number 115 = .ok (.aload_n 0, 1) := by decide +kernel
theorem dX10_number_116 : decode cX10_number 116 = .ok (.iconst 1, 1) := by decide +kernel
theorem dX10_number_117 : decode cX10_number 117 = .ok (.aload_n 0, 1) := by decide +kernel
theorem dX10_number_118 : decode cX10_number 118 = .ok (.getfield 159, 3) := by decide +kernel
theorem dX10_number_121 : decode cX10_number 121 = .ok (.invokevirtual 169, 3) := by decide +kernel
theorem dX10_number_124 : decode cX10_number 124 = .ok (.goto 21, 3) := by decide +kernel
theorem dX10_number_127 : decode cX10_number 127 = .ok (.iload_n 3, 1) := by decide +kernel
theorem dX10_number_128 : decode cX10_number 128 = .ok (.iload_n 1, 1) := by decide +kernel
theorem dX10_number_129 : decode cX10_number 129 = .ok (.iload_n 2, 1) := by decide +kernel
theorem dX10_number_130 : decode cX10_number 130 = .ok (.invokestatic 184, 3) := by decide +kernel
theorem dX10_number_133 : decode cX10_number 133 = .ok (.ifCond .ne 12, 3) := by decide +kernel
theorem dX10_number_136 : decode cX10_number 136 = .ok (.aload_n 0, 1) := by decide +kernel
theorem dX10_number_137 : decode cX10_number 137 = .ok (.iconst 2, 1) := by decide +kernel
theorem dX10_number_138 : decode cX10_number 138 = .ok (.aload_n 0, 1) := by decide +kernel
theorem dX10_number_139 : decode cX10_number 139 = .ok (.getfield 159, 3) := by decide +kernel
theorem dX10_number_142 : decode cX10_number 142 = .ok (.invokevirtual 169, 3) := by decide +kernel
theorem dX10_number_145 : decode cX10_number 145 = .ok (.iload_n 3, 1) := by decide +kernel
theorem dX10_number_146 : decode cX10_number 146 = .ok (.ireturn, 1) := by decide +kernel
theorem dX10_kindOf_0 : decode cX10_kindOf 0 = .ok (.iload_n 1, 1) := by decide +kernel
theorem dX10_kindOf_1 : decode cX10_kindOf 1 = .ok (.tableswitch 64 0 6 #[43, 46, 49, 52, 55, 58, 61], 43) := by decide +kernel
theorem dX10_kindOf_44 : decode cX10_kindOf 44 = .ok (.ldc 188, 2) := by decide +kernel
theorem dX10_kindOf_46 : decode cX10_kindOf 46 = .ok (.areturn, 1) := by decide +kernel
theorem dX10_kindOf_47 : decode cX10_kindOf 47 = .ok (.ldc 190, 2) := by decide +kernel
theorem dX10_kindOf_49 : decode cX10_kindOf 49 = .ok (.areturn, 1) := by decide +kernel
theorem dX10_kindOf_50 : decode cX10_kindOf 50 = .ok (.ldc 192, 2) := by decide +kernel
theorem dX10_kindOf_52 : decode cX10_kindOf 52 = .ok (.areturn, 1) := by decide +kernel
theorem dX10_kindOf_53 : decode cX10_kindOf 53 = .ok (.ldc 194, 2) := by decide +kernel
theorem dX10_kindOf_55 : decode cX10_kindOf 55 = .ok (.areturn, 1) := by decide +kernel
theorem dX10_kindOf_56 : decode cX10_kindOf 56 = .ok (.ldc 196, 2) := by decide +kernel
theorem dX10_kindOf_58 : decode cX10_kindOf 58 = .ok (.areturn, 1) := by decide +kernel
theorem dX10_kindOf_59 : decode cX10_kindOf 59 = .ok (.ldc 198, 2) := by decide +kernel
theorem dX10_kindOf_61 : decode cX10_kindOf 61 = .ok (.areturn, 1) := by decide +kernel
theorem dX10_kindOf_62 : decode cX10_kindOf 62 = .ok (.ldc 200, 2) := by decide +kernel
theorem dX10_kindOf_64 : decode cX10_kindOf 64 = .ok (.areturn, 1) := by decide +kernel
theorem dX10_kindOf_65 : decode cX10_kindOf 65 = .ok (.ldc 202, 2) := by decide +kernel
theorem dX10_kindOf_67 : decode cX10_kindOf 67 = .ok (.areturn, 1) := by decide +kernel
theorem dX10_wayOf_0 : decode cX10_wayOf 0 = .ok (.iload_n 1, 1) := by decide +kernel
theorem dX10_wayOf_1 : decode cX10_wayOf 1 = .ok (.ifCond .ne 8, 3) := by decide +kernel
theorem dX10_wayOf_4 : decode cX10_wayOf 4 = .ok (.ldc 204, 2) := by decide +kernel
theorem dX10_wayOf_6 : decode cX10_wayOf 6 = .ok (.goto 25, 3) := by decide +kernel
theorem dX10_wayOf_9 : decode cX10_wayOf 9 = .ok (.iload_n 1, 1) := by decide +kernel
theorem dX10_wayOf_10 : decode cX10_wayOf 10 = .ok (.iconst 1, 1) := by decide +kernel
theorem dX10_wayOf_11 : decode cX10_wayOf 11 = .ok (.if_icmp .ne 8, 3) := by decide +kernel
theorem dX10_wayOf_14 : decode cX10_wayOf 14 = .ok (.ldc 206, 2) := by decide +kernel
theorem dX10_wayOf_16 : decode cX10_wayOf 16 = .ok (.goto 15, 3) := by decide +kernel
theorem dX10_wayOf_19 : decode cX10_wayOf 19 = .ok (.iload_n 1, 1) := by decide +kernel
theorem dX10_wayOf_20 : decode cX10_wayOf 20 = .ok (.iconst 2, 1) := by decide +kernel
theorem dX10_wayOf_21 : decode cX10_wayOf 21 = .ok (.if_icmp .ne 8, 3) := by decide +kernel
theorem dX10_wayOf_24 : decode cX10_wayOf 24 = .ok (.ldc 208, 2) := by decide +kernel
theorem dX10_wayOf_26 : decode cX10_wayOf 26 = .ok (.goto 5, 3) := by decide +kernel
theorem dX10_wayOf_29 : decode cX10_wayOf 29 = .ok (.ldc 210, 2) := by decide +kernel
theorem dX10_wayOf_31 : decode cX10_wayOf 31 = .ok (.areturn, 1) := by decide +kernel
theorem dX10_clauseOf_0 : decode cX10_clauseOf 0 = .ok (.iload_n 1, 1) := by decide +kernel
theorem dX10_clauseOf_1 : decode cX10_clauseOf 1 = .ok (.ifCond .ne 8, 3) := by decide +kernel
theorem dX10_clauseOf_4 : decode cX10_clauseOf 4 = .ok (.ldc 212, 2) := by decide +kernel
theorem dX10_clauseOf_6 : decode cX10_clauseOf 6 = .ok (.goto 25, 3) := by decide +kernel
theorem dX10_clauseOf_9 : decode cX10_clauseOf 9 = .ok (.iload_n 1, 1) := by decide +kernel
theorem dX10_clauseOf_10 : decode cX10_clauseOf 10 = .ok (.iconst 1, 1) := by decide +kernel
theorem dX10_clauseOf_11 : decode cX10_clauseOf 11 = .ok (.if_icmp .ne 8, 3) := by decide +kernel
theorem dX10_clauseOf_14 : decode cX10_clauseOf 14 = .ok (.ldc 213, 2) := by decide +kernel
theorem dX10_clauseOf_16 : decode cX10_clauseOf 16 = .ok (.goto 15, 3) := by decide +kernel
theorem dX10_clauseOf_19 : decode cX10_clauseOf 19 = .ok (.iload_n 1, 1) := by decide +kernel
theorem dX10_clauseOf_20 : decode cX10_clauseOf 20 = .ok (.iconst 2, 1) := by decide +kernel
theorem dX10_clauseOf_21 : decode cX10_clauseOf 21 = .ok (.if_icmp .ne 8, 3) := by decide +kernel
theorem dX10_clauseOf_24 : decode cX10_clauseOf 24 = .ok (.ldc 214, 2) := by decide +kernel
theorem dX10_clauseOf_26 : decode cX10_clauseOf 26 = .ok (.goto 5, 3) := by decide +kernel
theorem dX10_clauseOf_29 : decode cX10_clauseOf 29 = .ok (.ldc 216, 2) := by decide +kernel
theorem dX10_clauseOf_31 : decode cX10_clauseOf 31 = .ok (.areturn, 1) := by decide +kernel
theorem dX10_one_0 : decode cX10_one 0 = .ok (.aload_n 0, 1) := by decide +kernel
theorem dX10_one_1 : decode cX10_one 1 = .ok (.invokevirtual 217, 3) := by decide +kernel
theorem dX10_one_4 : decode cX10_one 4 = .ok (.aload_n 0, 1) := by decide +kernel
theorem dX10_one_5 : decode cX10_one 5 = .ok (.getfield 153, 3) := by decide +kernel
theorem dX10_one_8 : decode cX10_one 8 = .ok (.ifCond .ne 28, 3) := by decide +kernel
theorem dX10_one_11 : decode cX10_one 11 = .ok (.aload_n 0, 1) := by decide +kernel
theorem dX10_one_12 : decode cX10_one 12 = .ok (.aload_n 1, 1) := by decide +kernel
theorem dX10_one_13 : decode cX10_one 13 = .ok (.invokevirtual 220, 3) := by decide +kernel
theorem dX10_one_16 : decode cX10_one 16 = .ok (.ifCond .ne 20, 3) := by decide +kernel
theorem dX10_one_19 : decode cX10_one 19 = .ok (.aload_n 0, 1) := by decide +kernel
theorem dX10_one_20 : decode cX10_one 20 = .ok (.aload_n 2, 1) := by decide +kernel
theorem dX10_one_21 : decode cX10_one 21 = .ok (.invokevirtual 220, 3) := by decide +kernel
theorem dX10_one_24 : decode cX10_one 24 = .ok (.ifCond .ne 12, 3) := by decide +kernel
theorem dX10_one_27 : decode cX10_one 27 = .ok (.aload_n 0, 1) := by decide +kernel
theorem dX10_one_28 : decode cX10_one 28 = .ok (.iconst 1, 1) := by decide +kernel
theorem dX10_one_29 : decode cX10_one 29 = .ok (.aload_n 0, 1) := by decide +kernel
theorem dX10_one_30 : decode cX10_one 30 = .ok (.getfield 159, 3) := by decide +kernel
theorem dX10_one_33 : decode cX10_one 33 = .ok (.invokevirtual 169, 3) := by decide +kernel
theorem dX10_one_36 : decode cX10_one 36 = .ok (.aload_n 0, 1) := by decide +kernel
theorem dX10_one_37 : decode cX10_one 37 = .ok (.getfield 153, 3) := by decide +kernel
theorem dX10_one_40 : decode cX10_one 40 = .ok (.ifCond .ne 15, 3) := by decide +kernel
theorem dX10_one_43 : decode cX10_one 43 = .ok (.aload_n 0, 1) := by decide +kernel
theorem dX10_one_44 : decode cX10_one 44 = .ok (.aload_n 1, 1) := by decide +kernel
theorem dX10_one_45 : decode cX10_one 45 = .ok (.invokevirtual 220, 3) := by decide +kernel
theorem dX10_one_48 : decode cX10_one 48 = .ok (.ifCond .eq 7, 3) := by decide +kernel
theorem dX10_one_51 : decode cX10_one 51 = .ok (.iconst 1, 1) := by decide +kernel
theorem dX10_one_52 : decode cX10_one 52 = .ok (.goto 4, 3) := by decide +kernel
theorem dX10_one_55 : decode cX10_one 55 = .ok (.iconst 0, 1) := by decide +kernel
theorem dX10_one_56 : decode cX10_one 56 = .ok (.ireturn, 1) := by decide +kernel
theorem dX10_motion_0 : decode cX10_motion 0 = .ok (.aload_n 0, 1) := by decide +kernel
theorem dX10_motion_1 : decode cX10_motion 1 = .ok (.invokevirtual 217, 3) := by decide +kernel
theorem dX10_motion_4 : decode cX10_motion 4 = .ok (.iconst 0, 1) := by decide +kernel
theorem dX10_motion_5 : decode cX10_motion 5 = .ok (.istore_n 1, 1) := by decide +kernel
theorem dX10_motion_6 : decode cX10_motion 6 = .ok (.iload_n 1, 1) := by decide +kernel
theorem dX10_motion_7 : decode cX10_motion 7 = .ok (.bipush 8, 2) := by decide +kernel
theorem dX10_motion_9 : decode cX10_motion 9 = .ok (.if_icmp .ge 21, 3) := by decide +kernel
theorem dX10_motion_12 : decode cX10_motion 12 = .ok (.aload_n 0, 1) := by decide +kernel
theorem dX10_motion_13 : decode cX10_motion 13 = .ok (.aload_n 0, 1) := by decide +kernel
theorem dX10_motion_14 : decode cX10_motion 14 = .ok (.iload_n 1, 1) := by decide +kernel
theorem dX10_motion_15 : decode cX10_motion 15 = .ok (.invokevirtual 224, 3) := by decide +kernel
theorem dX10_motion_18 : decode cX10_motion 18 = .ok (.invokevirtual 220, 3) := by decide +kernel
theorem dX10_motion_21 : decode cX10_motion 21 = .ok (.ifCond .ne 9, 3) := by decide +kernel
theorem dX10_motion_24 : decode cX10_motion 24 = .ok (.iinc 1 1, 3) := by decide +kernel
theorem dX10_motion_27 : decode cX10_motion 27 = .ok (.goto (-21), 3) := by decide +kernel
theorem dX10_motion_30 : decode cX10_motion 30 = .ok (.aload_n 0, 1) := by decide +kernel
theorem dX10_motion_31 : decode cX10_motion 31 = .ok (.getfield 153, 3) := by decide +kernel
theorem dX10_motion_34 : decode cX10_motion 34 = .ok (.ifCond .le 4, 3) := by decide +kernel
theorem dX10_motion_37 : decode cX10_motion 37 = .ok (.return_, 1) := by decide +kernel
theorem dX10_motion_38 : decode cX10_motion 38 = .ok (.iload_n 1, 1) := by decide +kernel
theorem dX10_motion_39 : decode cX10_motion 39 = .ok (.bipush 8, 2) := by decide +kernel
theorem dX10_motion_41 : decode cX10_motion 41 = .ok (.if_icmp .ne 13, 3) := by decide +kernel
theorem dX10_motion_44 : decode cX10_motion 44 = .ok (.aload_n 0, 1) := by decide +kernel
theorem dX10_motion_45 : decode cX10_motion 45 = .ok (.iconst 1, 1) := by decide +kernel
theorem dX10_motion_46 : decode cX10_motion 46 = .ok (.aload_n 0, 1) := by decide +kernel
theorem dX10_motion_47 : decode cX10_motion 47 = .ok (.getfield 159, 3) := by decide +kernel
theorem dX10_motion_50 : decode cX10_motion 50 = .ok (.invokevirtual 169, 3) := by decide +kernel
theorem dX10_motion_53 : decode cX10_motion 53 = .ok (.return_, 1) := by decide +kernel
theorem dX10_motion_54 : decode cX10_motion 54 = .ok (.aload_n 0, 1) := by decide +kernel
theorem dX10_motion_55 : decode cX10_motion 55 = .ok (.getfield 13, 3) := by decide +kernel
theorem dX10_motion_58 : decode cX10_motion 58 = .ok (.iconst 4, 1) := by decide +kernel
theorem dX10_motion_59 : decode cX10_motion 59 = .ok (.iload_n 1, 1) := by decide +kernel
theorem dX10_motion_60 : decode cX10_motion 60 = .ok (.iadd, 1) := by decide +kernel
theorem dX10_motion_61 : decode cX10_motion 61 = .ok (.baload, 1) := by decide +kernel
theorem dX10_motion_62 : decode cX10_motion 62 = .ok (.ifCond .eq 13, 3) := by decide +kernel
theorem dX10_motion_65 : decode cX10_motion 65 = .ok (.aload_n 0, 1) := by decide +kernel
theorem dX10_motion_66 : decode cX10_motion 66 = .ok (.iconst 3, 1) := by decide +kernel
theorem dX10_motion_67 : decode cX10_motion 67 = .ok (.aload_n 0, 1) := by decide +kernel
theorem dX10_motion_68 : decode cX10_motion 68 = .ok (.getfield 159, 3) := by decide +kernel
theorem dX10_motion_71 : decode cX10_motion 71 = .ok (.invokevirtual 169, 3) := by decide +kernel
theorem dX10_motion_74 : decode cX10_motion 74 = .ok (.return_, 1) := by decide +kernel
theorem dX10_motion_75 : decode cX10_motion 75 = .ok (.aload_n 0, 1) := by decide +kernel
theorem dX10_motion_76 : decode cX10_motion 76 = .ok (.getfield 13, 3) := by decide +kernel
theorem dX10_motion_79 : decode cX10_motion 79 = .ok (.iconst 4, 1) := by decide +kernel
theorem dX10_motion_80 : decode cX10_motion 80 = .ok (.iload_n 1, 1) := by decide +kernel
theorem dX10_motion_81 : decode cX10_motion 81 = .ok (.iadd, 1) := by decide +kernel
theorem dX10_motion_82 : decode cX10_motion 82 = .ok (.iconst 1, 1) := by decide +kernel
theorem dX10_motion_83 : decode cX10_motion 83 = .ok (.bastore, 1) := by decide +kernel
theorem dX10_motion_84 : decode cX10_motion 84 = .ok (.aload_n 0, 1) := by decide +kernel
theorem dX10_motion_85 : decode cX10_motion 85 = .ok (.ldc 228, 2) := by decide +kernel
theorem dX10_motion_87 : decode cX10_motion 87 = .ok (.ldc 228, 2) := by decide +kernel
theorem dX10_motion_89 : decode cX10_motion 89 = .ok (.invokevirtual 229, 3) := by decide +kernel
theorem dX10_motion_92 : decode cX10_motion 92 = .ok (.pop, 1) := by decide +kernel
theorem dX10_motion_93 : decode cX10_motion 93 = .ok (.aload_n 0, 1) := by decide +kernel
theorem dX10_motion_94 : decode cX10_motion 94 = .ok (.getfield 19, 3) := by decide +kernel
theorem dX10_motion_97 : decode cX10_motion 97 = .ok (.iconst 1, 1) := by decide +kernel
theorem dX10_motion_98 : decode cX10_motion 98 = .ok (.aaload, 1) := by decide +kernel
theorem dX10_motion_99 : decode cX10_motion 99 = .ok (.iload_n 1, 1) := by decide +kernel
theorem dX10_motion_100 : decode cX10_motion 100 = .ok (.aload_n 0, 1) := by decide +kernel
theorem dX10_motion_101 : decode cX10_motion 101 = .ok (.iconst 1, 1) := by decide +kernel
theorem dX10_motion_102 : decode cX10_motion 102 = .ok (.bipush 99, 2) := by decide +kernel
theorem dX10_motion_104 : decode cX10_motion 104 = .ok (.invokevirtual 233, 3) := by decide +kernel
theorem dX10_motion_107 : decode cX10_motion 107 = .ok (.iastore, 1) := by decide +kernel
theorem dX10_motion_108 : decode cX10_motion 108 = .ok (.aload_n 0, 1) := by decide +kernel
theorem dX10_motion_109 : decode cX10_motion 109 = .ok (.getfield 153, 3) := by decide +kernel
theorem dX10_motion_112 : decode cX10_motion 112 = .ok (.ifCond .le 4, 3) := by decide +kernel
theorem dX10_motion_115 : decode cX10_motion 115 = .ok (.return_, 1) := by decide +kernel
theorem dX10_motion_116 : decode cX10_motion 116 = .ok (.aload_n 0, 1) := by decide +kernel
theorem dX10_motion_117 : decode cX10_motion 117 = .ok (.invokevirtual 217, 3) := by decide +kernel
theorem dX10_motion_120 : decode cX10_motion 120 = .ok (.aload_n 0, 1) := by decide +kernel
theorem dX10_motion_121 : decode cX10_motion 121 = .ok (.getfield 27, 3) := by decide +kernel
theorem dX10_motion_124 : decode cX10_motion 124 = .ok (.iconst 1, 1) := by decide +kernel
theorem dX10_motion_125 : decode cX10_motion 125 = .ok (.aaload, 1) := by decide +kernel
theorem dX10_motion_126 : decode cX10_motion 126 = .ok (.iload_n 1, 1) := by decide +kernel
theorem dX10_motion_127 : decode cX10_motion 127 = .ok (.aload_n 0, 1) := by decide +kernel
theorem dX10_motion_128 : decode cX10_motion 128 = .ok (.ldc 236, 2) := by decide +kernel
theorem dX10_motion_130 : decode cX10_motion 130 = .ok (.invokevirtual 220, 3) := by decide +kernel
theorem dX10_motion_133 : decode cX10_motion 133 = .ok (.bastore, 1) := by decide +kernel
theorem dX10_motion_134 : decode cX10_motion 134 = .ok (.aload_n 0, 1) := by decide +kernel
theorem dX10_motion_135 : decode cX10_motion 135 = .ok (.getfield 27, 3) := by decide +kernel
theorem dX10_motion_138 : decode cX10_motion 138 = .ok (.iconst 1, 1) := by decide +kernel
theorem dX10_motion_139 : decode cX10_motion 139 = .ok (.aaload, 1) := by decide +kernel
theorem dX10_motion_140 : decode cX10_motion 140 = .ok (.iload_n 1, 1) := by decide +kernel
theorem dX10_motion_141 : decode cX10_motion 141 = .ok (.baload, 1) := by decide +kernel
theorem dX10_motion_142 : decode cX10_motion 142 = .ok (.ifCond .eq 7, 3) := by decide +kernel
theorem dX10_motion_145 : decode cX10_motion 145 = .ok (.aload_n 0, 1) := by decide +kernel
theorem dX10_motion_146 : decode cX10_motion 146 = .ok (.invokevirtual 217, 3) := by decide +kernel
theorem dX10_motion_149 : decode cX10_motion 149 = .ok (.aload_n 0, 1) := by decide +kernel
theorem dX10_motion_150 : decode cX10_motion 150 = .ok (.getfield 30, 3) := by decide +kernel
theorem dX10_motion_153 : decode cX10_motion 153 = .ok (.iconst 1, 1) := by decide +kernel
theorem dX10_motion_154 : decode cX10_motion 154 = .ok (.aaload, 1) := by decide +kernel
theorem dX10_motion_155 : decode cX10_motion 155 = .ok (.iload_n 1, 1) := by decide +kernel
theorem dX10_motion_156 : decode cX10_motion 156 = .ok (.aload_n 0, 1) := by decide +kernel
theorem dX10_motion_157 : decode cX10_motion 157 = .ok (.ldc 237, 2) := by decide +kernel
theorem dX10_motion_159 : decode cX10_motion 159 = .ok (.invokevirtual 220, 3) := by decide +kernel
theorem dX10_motion_162 : decode cX10_motion 162 = .ok (.bastore, 1) := by decide +kernel
theorem dX10_motion_163 : decode cX10_motion 163 = .ok (.aload_n 0, 1) := by decide +kernel
theorem dX10_motion_164 : decode cX10_motion 164 = .ok (.getfield 30, 3) := by decide +kernel
theorem dX10_motion_167 : decode cX10_motion 167 = .ok (.iconst 1, 1) := by decide +kernel
theorem dX10_motion_168 : decode cX10_motion 168 = .ok (.aaload, 1) := by decide +kernel
theorem dX10_motion_169 : decode cX10_motion 169 = .ok (.iload_n 1, 1) := by decide +kernel
theorem dX10_motion_170 : decode cX10_motion 170 = .ok (.baload, 1) := by decide +kernel
theorem dX10_motion_171 : decode cX10_motion 171 = .ok (.ifCond .eq 7, 3) := by decide +kernel
theorem dX10_motion_174 : decode cX10_motion 174 = .ok (.aload_n 0, 1) := by decide +kernel
theorem dX10_motion_175 : decode cX10_motion 175 = .ok (.invokevirtual 217, 3) := by decide +kernel
theorem dX10_motion_178 : decode cX10_motion 178 = .ok (.aload_n 0, 1) := by decide +kernel
theorem dX10_motion_179 : decode cX10_motion 179 = .ok (.getfield 153, 3) := by decide +kernel
theorem dX10_motion_182 : decode cX10_motion 182 = .ok (.ifCond .ne 21, 3) := by decide +kernel
theorem dX10_motion_185 : decode cX10_motion 185 = .ok (.aload_n 0, 1) := by decide +kernel
theorem dX10_motion_186 : decode cX10_motion 186 = .ok (.ldc 239, 2) := by decide +kernel
theorem dX10_motion_188 : decode cX10_motion 188 = .ok (.invokevirtual 220, 3) := by decide +kernel
theorem dX10_motion_191 : decode cX10_motion 191 = .ok (.ifCond .ne 12, 3) := by decide +kernel
theorem dX10_motion_194 : decode cX10_motion 194 = .ok (.aload_n 0, 1) := by decide +kernel
theorem dX10_motion_195 : decode cX10_motion 195 = .ok (.iconst 1, 1) := by decide +kernel
theorem dX10_motion_196 : decode cX10_motion 196 = .ok (.aload_n 0, 1) := by decide +kernel
theorem dX10_motion_197 : decode cX10_motion 197 = .ok (.getfield 159, 3) := by decide +kernel
theorem dX10_motion_200 : decode cX10_motion 200 = .ok (.invokevirtual 169, 3) := by decide +kernel
theorem dX10_motion_203 : decode cX10_motion 203 = .ok (.aload_n 0, 1) := by decide +kernel
theorem dX10_motion_204 : decode cX10_motion 204 = .ok (.getfield 153, 3) := by decide +kernel
theorem dX10_motion_207 : decode cX10_motion 207 = .ok (.ifCond .le 4, 3) := by decide +kernel
theorem dX10_motion_210 : decode cX10_motion 210 = .ok (.return_, 1) := by decide +kernel
theorem dX10_motion_211 : decode cX10_motion 211 = .ok (.aload_n 0, 1) := by decide +kernel
theorem dX10_motion_212 : decode cX10_motion 212 = .ok (.invokevirtual 217, 3) := by decide +kernel
end
section
theorem dX10_motion_215 : decode cX10_motion 215 = .ok (.iconst 0, 1) := by decide +kernel
theorem dX10_motion_216 : decode cX10_motion 216 = .ok (.istore_n 2, 1) := by decide +kernel
theorem dX10_motion_217 : decode cX10_motion 217 = .ok (.iload_n 2, 1) := by decide +kernel
theorem dX10_motion_218 : decode cX10_motion 218 = .ok (.iconst 4, 1) := by decide +kernel
theorem dX10_motion_219 : decode cX10_motion 219 = .ok (.if_icmp .ge 21, 3) := by decide +kernel
theorem dX10_motion_222 : decode cX10_motion 222 = .ok (.aload_n 0, 1) := by decide +kernel
theorem dX10_motion_223 : decode cX10_motion 223 = .ok (.aload_n 0, 1) := by decide +kernel
theorem dX10_motion_224 : decode cX10_motion 224 = .ok (.iload_n 2, 1) := by decide +kernel
theorem dX10_motion_225 : decode cX10_motion 225 = .ok (.invokevirtual 241, 3) := by decide +kernel
theorem dX10_motion_228 : decode cX10_motion 228 = .ok (.invokevirtual 220, 3) := by decide +kernel
theorem dX10_motion_231 : decode cX10_motion 231 = .ok (.ifCond .ne 9, 3) := by decide +kernel
theorem dX10_motion_234 : decode cX10_motion 234 = .ok (.iinc 2 1, 3) := by decide +kernel
theorem dX10_motion_237 : decode cX10_motion 237 = .ok (.goto (-20), 3) := by decide +kernel
theorem dX10_motion_240 : decode cX10_motion 240 = .ok (.aload_n 0, 1) := by decide +kernel
theorem dX10_motion_241 : decode cX10_motion 241 = .ok (.getfield 153, 3) := by decide +kernel
theorem dX10_motion_244 : decode cX10_motion 244 = .ok (.ifCond .ne 17, 3) := by decide +kernel
theorem dX10_motion_247 : decode cX10_motion 247 = .ok (.iload_n 2, 1) := by decide +kernel
theorem dX10_motion_248 : decode cX10_motion 248 = .ok (.iconst 4, 1) := by decide +kernel
theorem dX10_motion_249 : decode cX10_motion 249 = .ok (.if_icmp .ne 12, 3) := by decide +kernel
theorem dX10_motion_252 : decode cX10_motion 252 = .ok (.aload_n 0, 1) := by decide +kernel
theorem dX10_motion_253 : decode cX10_motion 253 = .ok (.iconst 1, 1) := by decide +kernel
theorem dX10_motion_254 : decode cX10_motion 254 = .ok (.aload_n 0, 1) := by decide +kernel
theorem dX10_motion_255 : decode cX10_motion 255 = .ok (.getfield 159, 3) := by decide +kernel
theorem dX10_motion_258 : decode cX10_motion 258 = .ok (.invokevirtual 169, 3) := by decide +kernel
theorem dX10_motion_261 : decode cX10_motion 261 = .ok (.aload_n 0, 1) := by decide +kernel
theorem dX10_motion_262 : decode cX10_motion 262 = .ok (.getfield 22, 3) := by decide +kernel
theorem dX10_motion_265 : decode cX10_motion 265 = .ok (.iconst 1, 1) := by decide +kernel
theorem dX10_motion_266 : decode cX10_motion 266 = .ok (.aaload, 1) := by decide +kernel
theorem dX10_motion_267 : decode cX10_motion 267 = .ok (.iload_n 1, 1) := by decide +kernel
theorem dX10_motion_268 : decode cX10_motion 268 = .ok (.iload_n 2, 1) := by decide +kernel
theorem dX10_motion_269 : decode cX10_motion 269 = .ok (.iastore, 1) := by decide +kernel
theorem dX10_motion_270 : decode cX10_motion 270 = .ok (.return_, 1) := by decide +kernel
theorem dX10_clause_0 : decode cX10_clause 0 = .ok (.aload_n 0, 1) := by decide +kernel
theorem dX10_clause_1 : decode cX10_clause 1 = .ok (.invokevirtual 217, 3) := by decide +kernel
theorem dX10_clause_4 : decode cX10_clause 4 = .ok (.aload_n 0, 1) := by decide +kernel
theorem dX10_clause_5 : decode cX10_clause 5 = .ok (.getfield 153, 3) := by decide +kernel
theorem dX10_clause_8 : decode cX10_clause 8 = .ok (.ifCond .le 4, 3) := by decide +kernel
theorem dX10_clause_11 : decode cX10_clause 11 = .ok (.return_, 1) := by decide +kernel
theorem dX10_clause_12 : decode cX10_clause 12 = .ok (.aload_n 0, 1) := by decide +kernel
theorem dX10_clause_13 : decode cX10_clause 13 = .ok (.ldc 244, 2) := by decide +kernel
theorem dX10_clause_15 : decode cX10_clause 15 = .ok (.invokevirtual 220, 3) := by decide +kernel
theorem dX10_clause_18 : decode cX10_clause 18 = .ok (.ifCond .eq 8, 3) := by decide +kernel
theorem dX10_clause_21 : decode cX10_clause 21 = .ok (.aload_n 0, 1) := by decide +kernel
theorem dX10_clause_22 : decode cX10_clause 22 = .ok (.invokevirtual 246, 3) := by decide +kernel
theorem dX10_clause_25 : decode cX10_clause 25 = .ok (.return_, 1) := by decide +kernel
theorem dX10_clause_26 : decode cX10_clause 26 = .ok (.iconst 0, 1) := by decide +kernel
theorem dX10_clause_27 : decode cX10_clause 27 = .ok (.istore_n 1, 1) := by decide +kernel
theorem dX10_clause_28 : decode cX10_clause 28 = .ok (.iload_n 1, 1) := by decide +kernel
theorem dX10_clause_29 : decode cX10_clause 29 = .ok (.iconst 4, 1) := by decide +kernel
theorem dX10_clause_30 : decode cX10_clause 30 = .ok (.if_icmp .ge 21, 3) := by decide +kernel
theorem dX10_clause_33 : decode cX10_clause 33 = .ok (.aload_n 0, 1) := by decide +kernel
theorem dX10_clause_34 : decode cX10_clause 34 = .ok (.aload_n 0, 1) := by decide +kernel
theorem dX10_clause_35 : decode cX10_clause 35 = .ok (.iload_n 1, 1) := by decide +kernel
theorem dX10_clause_36 : decode cX10_clause 36 = .ok (.invokevirtual 248, 3) := by decide +kernel
theorem dX10_clause_39 : decode cX10_clause 39 = .ok (.invokevirtual 220, 3) := by decide +kernel
theorem dX10_clause_42 : decode cX10_clause 42 = .ok (.ifCond .ne 9, 3) := by decide +kernel
theorem dX10_clause_45 : decode cX10_clause 45 = .ok (.iinc 1 1, 3) := by decide +kernel
theorem dX10_clause_48 : decode cX10_clause 48 = .ok (.goto (-20), 3) := by decide +kernel
theorem dX10_clause_51 : decode cX10_clause 51 = .ok (.iload_n 1, 1) := by decide +kernel
theorem dX10_clause_52 : decode cX10_clause 52 = .ok (.iconst 4, 1) := by decide +kernel
theorem dX10_clause_53 : decode cX10_clause 53 = .ok (.if_icmp .ne 13, 3) := by decide +kernel
theorem dX10_clause_56 : decode cX10_clause 56 = .ok (.aload_n 0, 1) := by decide +kernel
theorem dX10_clause_57 : decode cX10_clause 57 = .ok (.iconst 1, 1) := by decide +kernel
theorem dX10_clause_58 : decode cX10_clause 58 = .ok (.aload_n 0, 1) := by decide +kernel
theorem dX10_clause_59 : decode cX10_clause 59 = .ok (.getfield 159, 3) := by decide +kernel
theorem dX10_clause_62 : decode cX10_clause 62 = .ok (.invokevirtual 169, 3) := by decide +kernel
theorem dX10_clause_65 : decode cX10_clause 65 = .ok (.return_, 1) := by decide +kernel
theorem dX10_clause_66 : decode cX10_clause 66 = .ok (.aload_n 0, 1) := by decide +kernel
theorem dX10_clause_67 : decode cX10_clause 67 = .ok (.getfield 13, 3) := by decide +kernel
theorem dX10_clause_70 : decode cX10_clause 70 = .ok (.iload_n 1, 1) := by decide +kernel
theorem dX10_clause_71 : decode cX10_clause 71 = .ok (.baload, 1) := by decide +kernel
theorem dX10_clause_72 : decode cX10_clause 72 = .ok (.ifCond .eq 13, 3) := by decide +kernel
theorem dX10_clause_75 : decode cX10_clause 75 = .ok (.aload_n 0, 1) := by decide +kernel
theorem dX10_clause_76 : decode cX10_clause 76 = .ok (.iconst 3, 1) := by decide +kernel
theorem dX10_clause_77 : decode cX10_clause 77 = .ok (.aload_n 0, 1) := by decide +kernel
theorem dX10_clause_78 : decode cX10_clause 78 = .ok (.getfield 159, 3) := by decide +kernel
theorem dX10_clause_81 : decode cX10_clause 81 = .ok (.invokevirtual 169, 3) := by decide +kernel
theorem dX10_clause_84 : decode cX10_clause 84 = .ok (.return_, 1) := by decide +kernel
theorem dX10_clause_85 : decode cX10_clause 85 = .ok (.aload_n 0, 1) := by decide +kernel
theorem dX10_clause_86 : decode cX10_clause 86 = .ok (.getfield 13, 3) := by decide +kernel
theorem dX10_clause_89 : decode cX10_clause 89 = .ok (.iload_n 1, 1) := by decide +kernel
theorem dX10_clause_90 : decode cX10_clause 90 = .ok (.iconst 1, 1) := by decide +kernel
theorem dX10_clause_91 : decode cX10_clause 91 = .ok (.bastore, 1) := by decide +kernel
theorem dX10_clause_92 : decode cX10_clause 92 = .ok (.iload_n 1, 1) := by decide +kernel
theorem dX10_clause_93 : decode cX10_clause 93 = .ok (.tableswitch 77 0 2 #[27, 44, 60], 27) := by decide +kernel
theorem dX10_clause_120 : decode cX10_clause 120 = .ok (.aload_n 0, 1) := by decide +kernel
theorem dX10_clause_121 : decode cX10_clause 121 = .ok (.getfield 33, 3) := by decide +kernel
theorem dX10_clause_124 : decode cX10_clause 124 = .ok (.iconst 1, 1) := by decide +kernel
theorem dX10_clause_125 : decode cX10_clause 125 = .ok (.aload_n 0, 1) := by decide +kernel
theorem dX10_clause_126 : decode cX10_clause 126 = .ok (.iconst 1, 1) := by decide +kernel
theorem dX10_clause_127 : decode cX10_clause 127 = .ok (.sipush 9999, 3) := by decide +kernel
theorem dX10_clause_130 : decode cX10_clause 130 = .ok (.invokevirtual 233, 3) := by decide +kernel
theorem dX10_clause_133 : decode cX10_clause 133 = .ok (.iastore, 1) := by decide +kernel
theorem dX10_clause_134 : decode cX10_clause 134 = .ok (.goto 51, 3) := by decide +kernel
theorem dX10_clause_137 : decode cX10_clause 137 = .ok (.aload_n 0, 1) := by decide +kernel
theorem dX10_clause_138 : decode cX10_clause 138 = .ok (.getfield 37, 3) := by decide +kernel
theorem dX10_clause_141 : decode cX10_clause 141 = .ok (.iconst 1, 1) := by decide +kernel
theorem dX10_clause_142 : decode cX10_clause 142 = .ok (.aload_n 0, 1) := by decide +kernel
theorem dX10_clause_143 : decode cX10_clause 143 = .ok (.iconst 0, 1) := by decide +kernel
theorem dX10_clause_144 : decode cX10_clause 144 = .ok (.bipush 24, 2) := by decide +kernel
theorem dX10_clause_146 : decode cX10_clause 146 = .ok (.invokevirtual 233, 3) := by decide +kernel
theorem dX10_clause_149 : decode cX10_clause 149 = .ok (.iastore, 1) := by decide +kernel
theorem dX10_clause_150 : decode cX10_clause 150 = .ok (.goto 35, 3) := by decide +kernel
theorem dX10_clause_153 : decode cX10_clause 153 = .ok (.aload_n 0, 1) := by decide +kernel
theorem dX10_clause_154 : decode cX10_clause 154 = .ok (.getfield 40, 3) := by decide +kernel
theorem dX10_clause_157 : decode cX10_clause 157 = .ok (.iconst 1, 1) := by decide +kernel
theorem dX10_clause_158 : decode cX10_clause 158 = .ok (.aload_n 0, 1) := by decide +kernel
theorem dX10_clause_159 : decode cX10_clause 159 = .ok (.ldc 251, 2) := by decide +kernel
theorem dX10_clause_161 : decode cX10_clause 161 = .ok (.ldc 253, 2) := by decide +kernel
theorem dX10_clause_163 : decode cX10_clause 163 = .ok (.invokevirtual 229, 3) := by decide +kernel
theorem dX10_clause_166 : decode cX10_clause 166 = .ok (.bastore, 1) := by decide +kernel
theorem dX10_clause_167 : decode cX10_clause 167 = .ok (.goto 18, 3) := by decide +kernel
theorem dX10_clause_170 : decode cX10_clause 170 = .ok (.aload_n 0, 1) := by decide +kernel
theorem dX10_clause_171 : decode cX10_clause 171 = .ok (.getfield 43, 3) := by decide +kernel
theorem dX10_clause_174 : decode cX10_clause 174 = .ok (.iconst 1, 1) := by decide +kernel
theorem dX10_clause_175 : decode cX10_clause 175 = .ok (.aload_n 0, 1) := by decide +kernel
theorem dX10_clause_176 : decode cX10_clause 176 = .ok (.ldc 255, 2) := by decide +kernel
theorem dX10_clause_178 : decode cX10_clause 178 = .ok (.ldc_w 257, 3) := by decide +kernel
theorem dX10_clause_181 : decode cX10_clause 181 = .ok (.invokevirtual 229, 3) := by decide +kernel
theorem dX10_clause_184 : decode cX10_clause 184 = .ok (.bastore, 1) := by decide +kernel
theorem dX10_clause_185 : decode cX10_clause 185 = .ok (.return_, 1) := by decide +kernel
theorem dX10_rules_0 : decode cX10_rules 0 = .ok (.aload_n 0, 1) := by decide +kernel
theorem dX10_rules_1 : decode cX10_rules 1 = .ok (.getfield 259, 3) := by decide +kernel
theorem dX10_rules_4 : decode cX10_rules 4 = .ok (.ifCond .le 5, 3) := by decide +kernel
theorem dX10_rules_7 : decode cX10_rules 7 = .ok (.iconst (-1), 1) := by decide +kernel
theorem dX10_rules_8 : decode cX10_rules 8 = .ok (.ireturn, 1) := by decide +kernel
theorem dX10_rules_9 : decode cX10_rules 9 = .ok (.iconst 0, 1) := by decide +kernel
theorem dX10_rules_10 : decode cX10_rules 10 = .ok (.istore_n 1, 1) := by decide +kernel
theorem dX10_rules_11 : decode cX10_rules 11 = .ok (.iload_n 1, 1) := by decide +kernel
theorem dX10_rules_12 : decode cX10_rules 12 = .ok (.bipush 8, 2) := by decide +kernel
theorem dX10_rules_14 : decode cX10_rules 14 = .ok (.if_icmp .ge 36, 3) := by decide +kernel
theorem dX10_rules_17 : decode cX10_rules 17 = .ok (.aload_n 0, 1) := by decide +kernel
theorem dX10_rules_18 : decode cX10_rules 18 = .ok (.getfield 19, 3) := by decide +kernel
theorem dX10_rules_21 : decode cX10_rules 21 = .ok (.iconst 1, 1) := by decide +kernel
theorem dX10_rules_22 : decode cX10_rules 22 = .ok (.aaload, 1) := by decide +kernel
theorem dX10_rules_23 : decode cX10_rules 23 = .ok (.iload_n 1, 1) := by decide +kernel
theorem dX10_rules_24 : decode cX10_rules 24 = .ok (.iconst 0, 1) := by decide +kernel
theorem dX10_rules_25 : decode cX10_rules 25 = .ok (.iastore, 1) := by decide +kernel
theorem dX10_rules_26 : decode cX10_rules 26 = .ok (.aload_n 0, 1) := by decide +kernel
theorem dX10_rules_27 : decode cX10_rules 27 = .ok (.getfield 27, 3) := by decide +kernel
theorem dX10_rules_30 : decode cX10_rules 30 = .ok (.iconst 1, 1) := by decide +kernel
theorem dX10_rules_31 : decode cX10_rules 31 = .ok (.aaload, 1) := by decide +kernel
theorem dX10_rules_32 : decode cX10_rules 32 = .ok (.iload_n 1, 1) := by decide +kernel
theorem dX10_rules_33 : decode cX10_rules 33 = .ok (.iconst 0, 1) := by decide +kernel
theorem dX10_rules_34 : decode cX10_rules 34 = .ok (.bastore, 1) := by decide +kernel
theorem dX10_rules_35 : decode cX10_rules 35 = .ok (.aload_n 0, 1) := by decide +kernel
theorem dX10_rules_36 : decode cX10_rules 36 = .ok (.getfield 30, 3) := by decide +kernel
theorem dX10_rules_39 : decode cX10_rules 39 = .ok (.iconst 1, 1) := by decide +kernel
theorem dX10_rules_40 : decode cX10_rules 40 = .ok (.aaload, 1) := by decide +kernel
theorem dX10_rules_41 : decode cX10_rules 41 = .ok (.iload_n 1, 1) := by decide +kernel
theorem dX10_rules_42 : decode cX10_rules 42 = .ok (.iconst 0, 1) := by decide +kernel
theorem dX10_rules_43 : decode cX10_rules 43 = .ok (.bastore, 1) := by decide +kernel
theorem dX10_rules_44 : decode cX10_rules 44 = .ok (.iinc 1 1, 3) := by decide +kernel
theorem dX10_rules_47 : decode cX10_rules 47 = .ok (.goto (-36), 3) := by decide +kernel
theorem dX10_rules_50 : decode cX10_rules 50 = .ok (.aload_n 0, 1) := by decide +kernel
theorem dX10_rules_51 : decode cX10_rules 51 = .ok (.getfield 33, 3) := by decide +kernel
theorem dX10_rules_54 : decode cX10_rules 54 = .ok (.iconst 1, 1) := by decide +kernel
theorem dX10_rules_55 : decode cX10_rules 55 = .ok (.bipush 60, 2) := by decide +kernel
theorem dX10_rules_57 : decode cX10_rules 57 = .ok (.iastore, 1) := by decide +kernel
theorem dX10_rules_58 : decode cX10_rules 58 = .ok (.aload_n 0, 1) := by decide +kernel
theorem dX10_rules_59 : decode cX10_rules 59 = .ok (.getfield 37, 3) := by decide +kernel
theorem dX10_rules_62 : decode cX10_rules 62 = .ok (.iconst 1, 1) := by decide +kernel
theorem dX10_rules_63 : decode cX10_rules 63 = .ok (.iconst 0, 1) := by decide +kernel
theorem dX10_rules_64 : decode cX10_rules 64 = .ok (.iastore, 1) := by decide +kernel
theorem dX10_rules_65 : decode cX10_rules 65 = .ok (.aload_n 0, 1) := by decide +kernel
theorem dX10_rules_66 : decode cX10_rules 66 = .ok (.getfield 40, 3) := by decide +kernel
theorem dX10_rules_69 : decode cX10_rules 69 = .ok (.iconst 1, 1) := by decide +kernel
theorem dX10_rules_70 : decode cX10_rules 70 = .ok (.iconst 0, 1) := by decide +kernel
theorem dX10_rules_71 : decode cX10_rules 71 = .ok (.bastore, 1) := by decide +kernel
theorem dX10_rules_72 : decode cX10_rules 72 = .ok (.aload_n 0, 1) := by decide +kernel
theorem dX10_rules_73 : decode cX10_rules 73 = .ok (.getfield 43, 3) := by decide +kernel
theorem dX10_rules_76 : decode cX10_rules 76 = .ok (.iconst 1, 1) := by decide +kernel
theorem dX10_rules_77 : decode cX10_rules 77 = .ok (.iconst 1, 1) := by decide +kernel
theorem dX10_rules_78 : decode cX10_rules 78 = .ok (.bastore, 1) := by decide +kernel
theorem dX10_rules_79 : decode cX10_rules 79 = .ok (.iconst 0, 1) := by decide +kernel
theorem dX10_rules_80 : decode cX10_rules 80 = .ok (.istore_n 1, 1) := by decide +kernel
theorem dX10_rules_81 : decode cX10_rules 81 = .ok (.iload_n 1, 1) := by decide +kernel
theorem dX10_rules_82 : decode cX10_rules 82 = .ok (.bipush 12, 2) := by decide +kernel
theorem dX10_rules_84 : decode cX10_rules 84 = .ok (.if_icmp .ge 16, 3) := by decide +kernel
theorem dX10_rules_87 : decode cX10_rules 87 = .ok (.aload_n 0, 1) := by decide +kernel
theorem dX10_rules_88 : decode cX10_rules 88 = .ok (.getfield 13, 3) := by decide +kernel
theorem dX10_rules_91 : decode cX10_rules 91 = .ok (.iload_n 1, 1) := by decide +kernel
theorem dX10_rules_92 : decode cX10_rules 92 = .ok (.iconst 0, 1) := by decide +kernel
theorem dX10_rules_93 : decode cX10_rules 93 = .ok (.bastore, 1) := by decide +kernel
theorem dX10_rules_94 : decode cX10_rules 94 = .ok (.iinc 1 1, 3) := by decide +kernel
theorem dX10_rules_97 : decode cX10_rules 97 = .ok (.goto (-16), 3) := by decide +kernel
theorem dX10_rules_100 : decode cX10_rules 100 = .ok (.aload_n 0, 1) := by decide +kernel
theorem dX10_rules_101 : decode cX10_rules 101 = .ok (.iconst 0, 1) := by decide +kernel
theorem dX10_rules_102 : decode cX10_rules 102 = .ok (.putfield 156, 3) := by decide +kernel
theorem dX10_rules_105 : decode cX10_rules 105 = .ok (.aload_n 0, 1) := by decide +kernel
theorem dX10_rules_106 : decode cX10_rules 106 = .ok (.iconst 0, 1) := by decide +kernel
theorem dX10_rules_107 : decode cX10_rules 107 = .ok (.putfield 153, 3) := by decide +kernel
theorem dX10_rules_110 : decode cX10_rules 110 = .ok (.aload_n 0, 1) := by decide +kernel
theorem dX10_rules_111 : decode cX10_rules 111 = .ok (.getfield 153, 3) := by decide +kernel
theorem dX10_rules_114 : decode cX10_rules 114 = .ok (.ifCond .ne 64, 3) := by decide +kernel
theorem dX10_rules_117 : decode cX10_rules 117 = .ok (.aload_n 0, 1) := by decide +kernel
theorem dX10_rules_118 : decode cX10_rules 118 = .ok (.invokevirtual 162, 3) := by decide +kernel
theorem dX10_rules_121 : decode cX10_rules 121 = .ok (.ifCond .ne 57, 3) := by decide +kernel
theorem dX10_rules_124 : decode cX10_rules 124 = .ok (.aload_n 0, 1) := by decide +kernel
theorem dX10_rules_125 : decode cX10_rules 125 = .ok (.invokevirtual 262, 3) := by decide +kernel
theorem dX10_rules_128 : decode cX10_rules 128 = .ok (.aload_n 0, 1) := by decide +kernel
theorem dX10_rules_129 : decode cX10_rules 129 = .ok (.getfield 153, 3) := by decide +kernel
theorem dX10_rules_132 : decode cX10_rules 132 = .ok (.ifCond .ne (-22), 3) := by decide +kernel
theorem dX10_rules_135 : decode cX10_rules 135 = .ok (.aload_n 0, 1) := by decide +kernel
theorem dX10_rules_136 : decode cX10_rules 136 = .ok (.invokevirtual 162, 3) := by decide +kernel
theorem dX10_rules_139 : decode cX10_rules 139 = .ok (.ifCond .ne 17, 3) := by decide +kernel
theorem dX10_rules_142 : decode cX10_rules 142 = .ok (.aload_n 0, 1) := by decide +kernel
theorem dX10_rules_143 : decode cX10_rules 143 = .ok (.getfield 7, 3) := by decide +kernel
theorem dX10_rules_146 : decode cX10_rules 146 = .ok (.aload_n 0, 1) := by decide +kernel
theorem dX10_rules_147 : decode cX10_rules 147 = .ok (.getfield 156, 3) := by decide +kernel
theorem dX10_rules_150 : decode cX10_rules 150 = .ok (.baload, 1) := by decide +kernel
theorem dX10_rules_151 : decode cX10_rules 151 = .ok (.bipush 59, 2) := by decide +kernel
theorem dX10_rules_153 : decode cX10_rules 153 = .ok (.if_icmp .eq 12, 3) := by decide +kernel
theorem dX10_rules_156 : decode cX10_rules 156 = .ok (.aload_n 0, 1) := by decide +kernel
theorem dX10_rules_157 : decode cX10_rules 157 = .ok (.iconst 1, 1) := by decide +kernel
theorem dX10_rules_158 : decode cX10_rules 158 = .ok (.aload_n 0, 1) := by decide +kernel
theorem dX10_rules_159 : decode cX10_rules 159 = .ok (.getfield 156, 3) := by decide +kernel
theorem dX10_rules_162 : decode cX10_rules 162 = .ok (.invokevirtual 169, 3) := by decide +kernel
theorem dX10_rules_165 : decode cX10_rules 165 = .ok (.aload_n 0, 1) := by decide +kernel
theorem dX10_rules_166 : decode cX10_rules 166 = .ok (.dup, 1) := by decide +kernel
theorem dX10_rules_167 : decode cX10_rules 167 = .ok (.getfield 156, 3) := by decide +kernel
theorem dX10_rules_170 : decode cX10_rules 170 = .ok (.iconst 1, 1) := by decide +kernel
theorem dX10_rules_171 : decode cX10_rules 171 = .ok (.iadd, 1) := by decide +kernel
theorem dX10_rules_172 : decode cX10_rules 172 = .ok (.putfield 156, 3) := by decide +kernel
theorem dX10_rules_175 : decode cX10_rules 175 = .ok (.goto (-65), 3) := by decide +kernel
theorem dX10_rules_178 : decode cX10_rules 178 = .ok (.aload_n 0, 1) := by decide +kernel
theorem dX10_rules_179 : decode cX10_rules 179 = .ok (.iconst 0, 1) := by decide +kernel
theorem dX10_rules_180 : decode cX10_rules 180 = .ok (.putfield 146, 3) := by decide +kernel
theorem dX10_rules_183 : decode cX10_rules 183 = .ok (.aload_n 0, 1) := by decide +kernel
theorem dX10_rules_184 : decode cX10_rules 184 = .ok (.getfield 153, 3) := by decide +kernel
theorem dX10_rules_187 : decode cX10_rules 187 = .ok (.ifCond .le 8, 3) := by decide +kernel
theorem dX10_rules_190 : decode cX10_rules 190 = .ok (.aload_n 0, 1) := by decide +kernel
theorem dX10_rules_191 : decode cX10_rules 191 = .ok (.getfield 153, 3) := by decide +kernel
theorem dX10_rules_194 : decode cX10_rules 194 = .ok (.ireturn, 1) := by decide +kernel
theorem dX10_rules_195 : decode cX10_rules 195 = .ok (.iconst 0, 1) := by decide +kernel
theorem dX10_rules_196 : decode cX10_rules 196 = .ok (.istore_n 1, 1) := by decide +kernel
theorem dX10_rules_197 : decode cX10_rules 197 = .ok (.iload_n 1, 1) := by decide +kernel
theorem dX10_rules_198 : decode cX10_rules 198 = .ok (.bipush 8, 2) := by decide +kernel
theorem dX10_rules_200 : decode cX10_rules 200 = .ok (.if_icmp .ge 73, 3) := by decide +kernel
theorem dX10_rules_203 : decode cX10_rules 203 = .ok (.aload_n 0, 1) := by decide +kernel
theorem dX10_rules_204 : decode cX10_rules 204 = .ok (.getfield 19, 3) := by decide +kernel
theorem dX10_rules_207 : decode cX10_rules 207 = .ok (.iconst 0, 1) := by decide +kernel
theorem dX10_rules_208 : decode cX10_rules 208 = .ok (.aaload, 1) := by decide +kernel
theorem dX10_rules_209 : decode cX10_rules 209 = .ok (.iload_n 1, 1) := by decide +kernel
theorem dX10_rules_210 : decode cX10_rules 210 = .ok (.aload_n 0, 1) := by decide +kernel
theorem dX10_rules_211 : decode cX10_rules 211 = .ok (.getfield 19, 3) := by decide +kernel
theorem dX10_rules_214 : decode cX10_rules 214 = .ok (.iconst 1, 1) := by decide +kernel
theorem dX10_rules_215 : decode cX10_rules 215 = .ok (.aaload, 1) := by decide +kernel
theorem dX10_rules_216 : decode cX10_rules 216 = .ok (.iload_n 1, 1) := by decide +kernel
theorem dX10_rules_217 : decode cX10_rules 217 = .ok (.iaload, 1) := by decide +kernel
theorem dX10_rules_218 : decode cX10_rules 218 = .ok (.iastore, 1) := by decide +kernel
theorem dX10_rules_219 : decode cX10_rules 219 = .ok (.aload_n 0, 1) := by decide +kernel
theorem dX10_rules_220 : decode cX10_rules 220 = .ok (.getfield 22, 3) := by decide +kernel
theorem dX10_rules_223 : decode cX10_rules 223 = .ok (.iconst 0, 1) := by decide +kernel
theorem dX10_rules_224 : decode cX10_rules 224 = .ok (.aaload, 1) := by decide +kernel
theorem dX10_rules_225 : decode cX10_rules 225 = .ok (.iload_n 1, 1) := by decide +kernel
theorem dX10_rules_226 : decode cX10_rules 226 = .ok (.aload_n 0, 1) := by decide +kernel
theorem dX10_rules_227 : decode cX10_rules 227 = .ok (.getfield 22, 3) := by decide +kernel
theorem dX10_rules_230 : decode cX10_rules 230 = .ok (.iconst 1, 1) := by decide +kernel
theorem dX10_rules_231 : decode cX10_rules 231 = .ok (.aaload, 1) := by decide +kernel
theorem dX10_rules_232 : decode cX10_rules 232 = .ok (.iload_n 1, 1) := by decide +kernel
theorem dX10_rules_233 : decode cX10_rules 233 = .ok (.iaload, 1) := by decide +kernel
theorem dX10_rules_234 : decode cX10_rules 234 = .ok (.iastore, 1) := by decide +kernel
theorem dX10_rules_235 : decode cX10_rules 235 = .ok (.aload_n 0, 1) := by decide +kernel
theorem dX10_rules_236 : decode cX10_rules 236 = .ok (.getfield 27, 3) := by decide +kernel
theorem dX10_rules_239 : decode cX10_rules 239 = .ok (.iconst 0, 1) := by decide +kernel
theorem dX10_rules_240 : decode cX10_rules 240 = .ok (.aaload, 1) := by decide +kernel
theorem dX10_rules_241 : decode cX10_rules 241 = .ok (.iload_n 1, 1) := by decide +kernel
theorem dX10_rules_242 : decode cX10_rules 242 = .ok (.aload_n 0, 1) := by decide +kernel
theorem dX10_rules_243 : decode cX10_rules 243 = .ok (.getfield 27, 3) := by decide +kernel
theorem dX10_rules_246 : decode cX10_rules 246 = .ok (.iconst 1, 1) := by decide +kernel
theorem dX10_rules_247 : decode cX10_rules 247 = .ok (.aaload, 1) := by decide +kernel
theorem dX10_rules_248 : decode cX10_rules 248 = .ok (.iload_n 1, 1) := by decide +kernel
theorem dX10_rules_249 : decode cX10_rules 249 = .ok (.baload, 1) := by decide +kernel
theorem dX10_rules_250 : decode cX10_rules 250 = .ok (.bastore, 1) := by decide +kernel
theorem dX10_rules_251 : decode cX10_rules 251 = .ok (.aload_n 0, 1) := by decide +kernel
theorem dX10_rules_252 : decode cX10_rules 252 = .ok (.getfield 30, 3) := by decide +kernel
theorem dX10_rules_255 : decode cX10_rules 255 = .ok (.iconst 0, 1) := by decide +kernel
theorem dX10_rules_256 : decode cX10_rules 256 = .ok (.aaload, 1) := by decide +kernel
theorem dX10_rules_257 : decode cX10_rules 257 = .ok (.iload_n 1, 1) := by decide +kernel
theorem dX10_rules_258 : decode cX10_rules 258 = .ok (.aload_n 0, 1) := by decide +kernel
theorem dX10_rules_259 : decode cX10_rules 259 = .ok (.getfield 30, 3) := by decide +kernel
theorem dX10_rules_262 : decode cX10_rules 262 = .ok (.iconst 1, 1) := by decide +kernel
theorem dX10_rules_263 : decode cX10_rules 263 = .ok (.aaload, 1) := by decide +kernel
theorem dX10_rules_264 : decode cX10_rules 264 = .ok (.iload_n 1, 1) := by decide +kernel
theorem dX10_rules_265 : decode cX10_rules 265 = .ok (.baload, 1) := by decide +kernel
theorem dX10_rules_266 : decode cX10_rules 266 = .ok (.bastore, 1) := by decide +kernel
theorem dX10_rules_267 : decode cX10_rules 267 = .ok (.iinc 1 1, 3) := by decide +kernel
theorem dX10_rules_270 : decode cX10_rules 270 = .ok (.goto (-73), 3) := by decide +kernel
theorem dX10_rules_273 : decode cX10_rules 273 = .ok (.aload_n 0, 1) := by decide +kernel
theorem dX10_rules_274 : decode cX10_rules 274 = .ok (.getfield 33, 3) := by decide +kernel
theorem dX10_rules_277 : decode cX10_rules 277 = .ok (.iconst 0, 1) := by decide +kernel
theorem dX10_rules_278 : decode cX10_rules 278 = .ok (.aload_n 0, 1) := by decide +kernel
theorem dX10_rules_279 : decode cX10_rules 279 = .ok (.getfield 33, 3) := by decide +kernel
theorem dX10_rules_282 : decode cX10_rules 282 = .ok (.iconst 1, 1) := by decide +kernel
theorem dX10_rules_283 : decode cX10_rules 283 = .ok (.iaload, 1) := by decide +kernel
theorem dX10_rules_284 : decode cX10_rules 284 = .ok (.iastore, 1) := by decide +kernel
theorem dX10_rules_285 : decode cX10_rules 285 = .ok (.aload_n 0, 1) := by decide +kernel
theorem dX10_rules_286 : decode cX10_rules 286 = .ok (.getfield 37, 3) := by decide +kernel
theorem dX10_rules_289 : decode cX10_rules 289 = .ok (.iconst 0, 1) := by decide +kernel
theorem dX10_rules_290 : decode cX10_rules 290 = .ok (.aload_n 0, 1) := by decide +kernel
theorem dX10_rules_291 : decode cX10_rules 291 = .ok (.getfield 37, 3) := by decide +kernel
theorem dX10_rules_294 : decode cX10_rules 294 = .ok (.iconst 1, 1) := by decide +kernel
theorem dX10_rules_295 : decode cX10_rules 295 = .ok (.iaload, 1) := by decide +kernel
theorem dX10_rules_296 : decode cX10_rules 296 = .ok (.iastore, 1) := by decide +kernel
theorem dX10_rules_297 : decode cX10_rules 297 = .ok (.aload_n 0, 1) := by decide +kernel
theorem dX10_rules_298 : decode cX10_rules 298 = .ok (.getfield 40, 3) := by decide +kernel
theorem dX10_rules_301 : decode cX10_rules 301 = .ok (.iconst 0, 1) := by decide +kernel
theorem dX10_rules_302 : decode cX10_rules 302 = .ok (.aload_n 0, 1) := by decide +kernel
theorem dX10_rules_303 : decode cX10_rules 303 = .ok (.getfield 40, 3) := by decide +kernel
theorem dX10_rules_306 : decode cX10_rules 306 = .ok (.iconst 1, 1) := by decide +kernel
theorem dX10_rules_307 : decode cX10_rules 307 = .ok (.baload, 1) := by decide +kernel
theorem dX10_rules_308 : decode cX10_rules 308 = .ok (.bastore, 1) := by decide +kernel
theorem dX10_rules_309 : decode cX10_rules 309 = .ok (.aload_n 0, 1) := by decide +kernel
theorem dX10_rules_310 : decode cX10_rules 310 = .ok (.getfield 43, 3) := by decide +kernel
theorem dX10_rules_313 : decode cX10_rules 313 = .ok (.iconst 0, 1) := by decide +kernel
theorem dX10_rules_314 : decode cX10_rules 314 = .ok (.aload_n 0, 1) := by decide +kernel
theorem dX10_rules_315 : decode cX10_rules 315 = .ok (.getfield 43, 3) := by decide +kernel
theorem dX10_rules_318 : decode cX10_rules 318 = .ok (.iconst 1, 1) := by decide +kernel
theorem dX10_rules_319 : decode cX10_rules 319 = .ok (.baload, 1) := by decide +kernel
theorem dX10_rules_320 : decode cX10_rules 320 = .ok (.bastore, 1) := by decide +kernel
theorem dX10_rules_321 : decode cX10_rules 321 = .ok (.aload_n 0, 1) := by decide +kernel
theorem dX10_rules_322 : decode cX10_rules 322 = .ok (.invokevirtual 140, 3) := by decide +kernel
theorem dX10_rules_325 : decode cX10_rules 325 = .ok (.iconst 0, 1) := by decide +kernel
theorem dX10_rules_326 : decode cX10_rules 326 = .ok (.ireturn, 1) := by decide +kernel
theorem dX10_school_0 : decode cX10_school 0 = .ok (.iload_n 1, 1) := by decide +kernel
theorem dX10_school_1 : decode cX10_school 1 = .ok (.iconst 0, 1) := by decide +kernel
theorem dX10_school_2 : decode cX10_school 2 = .ok (.bipush 23, 2) := by decide +kernel
theorem dX10_school_4 : decode cX10_school 4 = .ok (.invokestatic 184, 3) := by decide +kernel
theorem dX10_school_7 : decode cX10_school 7 = .ok (.ifCond .eq 20, 3) := by decide +kernel
theorem dX10_school_10 : decode cX10_school 10 = .ok (.iload_n 2, 1) := by decide +kernel
theorem dX10_school_11 : decode cX10_school 11 = .ok (.iconst 0, 1) := by decide +kernel
theorem dX10_school_12 : decode cX10_school 12 = .ok (.bipush 7, 2) := by decide +kernel
theorem dX10_school_14 : decode cX10_school 14 = .ok (.invokestatic 184, 3) := by decide +kernel
theorem dX10_school_17 : decode cX10_school 17 = .ok (.ifCond .eq 10, 3) := by decide +kernel
theorem dX10_school_20 : decode cX10_school 20 = .ok (.aload_n 0, 1) := by decide +kernel
theorem dX10_school_21 : decode cX10_school 21 = .ok (.getfield 259, 3) := by decide +kernel
theorem dX10_school_24 : decode cX10_school 24 = .ok (.ifCond .le 5, 3) := by decide +kernel
theorem dX10_school_27 : decode cX10_school 27 = .ok (.iconst 0, 1) := by decide +kernel
theorem dX10_school_28 : decode cX10_school 28 = .ok (.ireturn, 1) := by decide +kernel
theorem dX10_school_29 : decode cX10_school 29 = .ok (.aload_n 0, 1) := by decide +kernel
theorem dX10_school_30 : decode cX10_school 30 = .ok (.getfield 46, 3) := by decide +kernel
theorem dX10_school_33 : decode cX10_school 33 = .ok (.iload_n 1, 1) := by decide +kernel
theorem dX10_school_34 : decode cX10_school 34 = .ok (.iload_n 2, 1) := by decide +kernel
theorem dX10_school_35 : decode cX10_school 35 = .ok (.iastore, 1) := by decide +kernel
theorem dX10_school_36 : decode cX10_school 36 = .ok (.iconst 1, 1) := by decide +kernel
theorem dX10_school_37 : decode cX10_school 37 = .ok (.ireturn, 1) := by decide +kernel
theorem dX10_begin_0 : decode cX10_begin 0 = .ok (.iconst 0, 1) := by decide +kernel
theorem dX10_begin_1 : decode cX10_begin 1 = .ok (.istore_n 1, 1) := by decide +kernel
theorem dX10_begin_2 : decode cX10_begin 2 = .ok (.iload_n 1, 1) := by decide +kernel
theorem dX10_begin_3 : decode cX10_begin 3 = .ok (.bipush 24, 2) := by decide +kernel
theorem dX10_begin_5 : decode cX10_begin 5 = .ok (.if_icmp .ge 23, 3) := by decide +kernel
theorem dX10_begin_8 : decode cX10_begin 8 = .ok (.aload_n 0, 1) := by decide +kernel
theorem dX10_begin_9 : decode cX10_begin 9 = .ok (.getfield 77, 3) := by decide +kernel
theorem dX10_begin_12 : decode cX10_begin 12 = .ok (.iload_n 1, 1) := by decide +kernel
theorem dX10_begin_13 : decode cX10_begin 13 = .ok (.iconst 0, 1) := by decide +kernel
theorem dX10_begin_14 : decode cX10_begin 14 = .ok (.bastore, 1) := by decide +kernel
theorem dX10_begin_15 : decode cX10_begin 15 = .ok (.aload_n 0, 1) := by decide +kernel
theorem dX10_begin_16 : decode cX10_begin 16 = .ok (.getfield 83, 3) := by decide +kernel
theorem dX10_begin_19 : decode cX10_begin 19 = .ok (.iload_n 1, 1) := by decide +kernel
theorem dX10_begin_20 : decode cX10_begin 20 = .ok (.iconst 0, 1) := by decide +kernel
theorem dX10_begin_21 : decode cX10_begin 21 = .ok (.iastore, 1) := by decide +kernel
theorem dX10_begin_22 : decode cX10_begin 22 = .ok (.iinc 1 1, 3) := by decide +kernel
theorem dX10_begin_25 : decode cX10_begin 25 = .ok (.goto (-23), 3) := by decide +kernel
theorem dX10_begin_28 : decode cX10_begin 28 = .ok (.iconst 0, 1) := by decide +kernel
theorem dX10_begin_29 : decode cX10_begin 29 = .ok (.istore_n 1, 1) := by decide +kernel
theorem dX10_begin_30 : decode cX10_begin 30 = .ok (.iload_n 1, 1) := by decide +kernel
theorem dX10_begin_31 : decode cX10_begin 31 = .ok (.sipush 300, 3) := by decide +kernel
theorem dX10_begin_34 : decode cX10_begin 34 = .ok (.if_icmp .ge 28, 3) := by decide +kernel
theorem dX10_begin_37 : decode cX10_begin 37 = .ok (.aload_n 0, 1) := by decide +kernel
theorem dX10_begin_38 : decode cX10_begin 38 = .ok (.getfield 107, 3) := by decide +kernel
theorem dX10_begin_41 : decode cX10_begin 41 = .ok (.iload_n 1, 1) := by decide +kernel
theorem dX10_begin_42 : decode cX10_begin 42 = .ok (.iconst 0, 1) := by decide +kernel
theorem dX10_begin_43 : decode cX10_begin 43 = .ok (.bastore, 1) := by decide +kernel
theorem dX10_begin_44 : decode cX10_begin 44 = .ok (.aload_n 0, 1) := by decide +kernel
theorem dX10_begin_45 : decode cX10_begin 45 = .ok (.getfield 70, 3) := by decide +kernel
theorem dX10_begin_48 : decode cX10_begin 48 = .ok (.aload_n 0, 1) := by decide +kernel
theorem dX10_begin_49 : decode cX10_begin 49 = .ok (.getfield 265, 3) := by decide +kernel
theorem dX10_begin_52 : decode cX10_begin 52 = .ok (.aaload, 1) := by decide +kernel
theorem dX10_begin_53 : decode cX10_begin 53 = .ok (.iload_n 1, 1) := by decide +kernel
theorem dX10_begin_54 : decode cX10_begin 54 = .ok (.iconst 0, 1) := by decide +kernel
theorem dX10_begin_55 : decode cX10_begin 55 = .ok (.bastore, 1) := by decide +kernel
theorem dX10_begin_56 : decode cX10_begin 56 = .ok (.iinc 1 1, 3) := by decide +kernel
theorem dX10_begin_59 : decode cX10_begin 59 = .ok (.goto (-29), 3) := by decide +kernel
theorem dX10_begin_62 : decode cX10_begin 62 = .ok (.aload_n 0, 1) := by decide +kernel
theorem dX10_begin_63 : decode cX10_begin 63 = .ok (.iconst 0, 1) := by decide +kernel
theorem dX10_begin_64 : decode cX10_begin 64 = .ok (.putfield 268, 3) := by decide +kernel
theorem dX10_begin_67 : decode cX10_begin 67 = .ok (.aload_n 0, 1) := by decide +kernel
theorem dX10_begin_68 : decode cX10_begin 68 = .ok (.iconst (-1), 1) := by decide +kernel
theorem dX10_begin_69 : decode cX10_begin 69 = .ok (.putfield 271, 3) := by decide +kernel
theorem dX10_begin_72 : decode cX10_begin 72 = .ok (.aload_n 0, 1) := by decide +kernel
theorem dX10_begin_73 : decode cX10_begin 73 = .ok (.iconst 0, 1) := by decide +kernel
theorem dX10_begin_74 : decode cX10_begin 74 = .ok (.putfield 274, 3) := by decide +kernel
theorem dX10_begin_77 : decode cX10_begin 77 = .ok (.aload_n 0, 1) := by decide +kernel
theorem dX10_begin_78 : decode cX10_begin 78 = .ok (.aload_n 0, 1) := by decide +kernel
theorem dX10_begin_79 : decode cX10_begin 79 = .ok (.getfield 33, 3) := by decide +kernel
theorem dX10_begin_82 : decode cX10_begin 82 = .ok (.iconst 0, 1) := by decide +kernel
theorem dX10_begin_83 : decode cX10_begin 83 = .ok (.iaload, 1) := by decide +kernel
theorem dX10_begin_84 : decode cX10_begin 84 = .ok (.putfield 277, 3) := by decide +kernel
theorem dX10_begin_87 : decode cX10_begin 87 = .ok (.aload_n 0, 1) := by decide +kernel
theorem dX10_begin_88 : decode cX10_begin 88 = .ok (.iconst 0, 1) := by decide +kernel
theorem dX10_begin_89 : decode cX10_begin 89 = .ok (.putfield 280, 3) := by decide +kernel
theorem dX10_begin_92 : decode cX10_begin 92 = .ok (.aload_n 0, 1) := by decide +kernel
theorem dX10_begin_93 : decode cX10_begin 93 = .ok (.iconst 0, 1) := by decide +kernel
theorem dX10_begin_94 : decode cX10_begin 94 = .ok (.putfield 283, 3) := by decide +kernel
theorem dX10_begin_97 : decode cX10_begin 97 = .ok (.aload_n 0, 1) := by decide +kernel
theorem dX10_begin_98 : decode cX10_begin 98 = .ok (.iconst 0, 1) := by decide +kernel
theorem dX10_begin_99 : decode cX10_begin 99 = .ok (.putfield 286, 3) := by decide +kernel
theorem dX10_begin_102 : decode cX10_begin 102 = .ok (.aload_n 0, 1) := by decide +kernel
theorem dX10_begin_103 : decode cX10_begin 103 = .ok (.iconst 0, 1) := by decide +kernel
theorem dX10_begin_104 : decode cX10_begin 104 = .ok (.putfield 290, 3) := by decide +kernel
theorem dX10_begin_107 : decode cX10_begin 107 = .ok (.aload_n 0, 1) := by decide +kernel
theorem dX10_begin_108 : decode cX10_begin 108 = .ok (.iconst 0, 1) := by decide +kernel
theorem dX10_begin_109 : decode cX10_begin 109 = .ok (.putfield 293, 3) := by decide +kernel
theorem dX10_begin_112 : decode cX10_begin 112 = .ok (.aload_n 0, 1) := by decide +kernel
theorem dX10_begin_113 : decode cX10_begin 113 = .ok (.iconst 0, 1) := by decide +kernel
theorem dX10_begin_114 : decode cX10_begin 114 = .ok (.putfield 296, 3) := by decide +kernel
theorem dX10_begin_117 : decode cX10_begin 117 = .ok (.aload_n 0, 1) := by decide +kernel
theorem dX10_begin_118 : decode cX10_begin 118 = .ok (.iconst 0, 1) := by decide +kernel
theorem dX10_begin_119 : decode cX10_begin 119 = .ok (.putfield 299, 3) := by decide +kernel
theorem dX10_begin_122 : decode cX10_begin 122 = .ok (.aload_n 0, 1) := by decide +kernel
theorem dX10_begin_123 : decode cX10_begin 123 = .ok (.iconst 0, 1) := by decide +kernel
theorem dX10_begin_124 : decode cX10_begin 124 = .ok (.putfield 302, 3) := by decide +kernel
theorem dX10_begin_127 : decode cX10_begin 127 = .ok (.return_, 1) := by decide +kernel
theorem dX10_there_0 : decode cX10_there 0 = .ok (.iconst 0, 1) := by decide +kernel
theorem dX10_there_1 : decode cX10_there 1 = .ok (.istore_n 1, 1) := by decide +kernel
theorem dX10_there_2 : decode cX10_there 2 = .ok (.iconst 0, 1) := by decide +kernel
theorem dX10_there_3 : decode cX10_there 3 = .ok (.istore_n 2, 1) := by decide +kernel
theorem dX10_there_4 : decode cX10_there 4 = .ok (.iload_n 2, 1) := by decide +kernel
theorem dX10_there_5 : decode cX10_there 5 = .ok (.bipush 24, 2) := by decide +kernel
theorem dX10_there_7 : decode cX10_there 7 = .ok (.if_icmp .ge 26, 3) := by decide +kernel
theorem dX10_there_10 : decode cX10_there 10 = .ok (.iload_n 1, 1) := by decide +kernel
theorem dX10_there_11 : decode cX10_there 11 = .ok (.aload_n 0, 1) := by decide +kernel
theorem dX10_there_12 : decode cX10_there 12 = .ok (.getfield 77, 3) := by decide +kernel
theorem dX10_there_15 : decode cX10_there 15 = .ok (.iload_n 2, 1) := by decide +kernel
theorem dX10_there_16 : decode cX10_there 16 = .ok (.baload, 1) := by decide +kernel
theorem dX10_there_17 : decode cX10_there 17 = .ok (.ifCond .eq 7, 3) := by decide +kernel
theorem dX10_there_20 : decode cX10_there 20 = .ok (.iconst 1, 1) := by decide +kernel
theorem dX10_there_21 : decode cX10_there 21 = .ok (.goto 4, 3) := by decide +kernel
theorem dX10_there_24 : decode cX10_there 24 = .ok (.iconst 0, 1) := by decide +kernel
theorem dX10_there_25 : decode cX10_there 25 = .ok (.iadd, 1) := by decide +kernel
theorem dX10_there_26 : decode cX10_there 26 = .ok (.istore_n 1, 1) := by decide +kernel
theorem dX10_there_27 : decode cX10_there 27 = .ok (.iinc 2 1, 3) := by decide +kernel
theorem dX10_there_30 : decode cX10_there 30 = .ok (.goto (-26), 3) := by decide +kernel
theorem dX10_there_33 : decode cX10_there 33 = .ok (.iload_n 1, 1) := by decide +kernel
theorem dX10_there_34 : decode cX10_there 34 = .ok (.ireturn, 1) := by decide +kernel
theorem dX10_waitsFor_0 : decode cX10_waitsFor 0 = .ok (.iconst 0, 1) := by decide +kernel
theorem dX10_waitsFor_1 : decode cX10_waitsFor 1 = .ok (.istore_n 2, 1) := by decide +kernel
theorem dX10_waitsFor_2 : decode cX10_waitsFor 2 = .ok (.iload_n 2, 1) := by decide +kernel
theorem dX10_waitsFor_3 : decode cX10_waitsFor 3 = .ok (.aload_n 0, 1) := by decide +kernel
theorem dX10_waitsFor_4 : decode cX10_waitsFor 4 = .ok (.getfield 268, 3) := by decide +kernel
theorem dX10_waitsFor_7 : decode cX10_waitsFor 7 = .ok (.if_icmp .ge 21, 3) := by decide +kernel
theorem dX10_waitsFor_10 : decode cX10_waitsFor 10 = .ok (.aload_n 0, 1) := by decide +kernel
theorem dX10_waitsFor_11 : decode cX10_waitsFor 11 = .ok (.getfield 80, 3) := by decide +kernel
theorem dX10_waitsFor_14 : decode cX10_waitsFor 14 = .ok (.iload_n 2, 1) := by decide +kernel
theorem dX10_waitsFor_15 : decode cX10_waitsFor 15 = .ok (.iaload, 1) := by decide +kernel
theorem dX10_waitsFor_16 : decode cX10_waitsFor 16 = .ok (.iload_n 1, 1) := by decide +kernel
theorem dX10_waitsFor_17 : decode cX10_waitsFor 17 = .ok (.if_icmp .ne 5, 3) := by decide +kernel
theorem dX10_waitsFor_20 : decode cX10_waitsFor 20 = .ok (.iconst 1, 1) := by decide +kernel
theorem dX10_waitsFor_21 : decode cX10_waitsFor 21 = .ok (.ireturn, 1) := by decide +kernel
theorem dX10_waitsFor_22 : decode cX10_waitsFor 22 = .ok (.iinc 2 1, 3) := by decide +kernel
theorem dX10_waitsFor_25 : decode cX10_waitsFor 25 = .ok (.goto (-23), 3) := by decide +kernel
theorem dX10_waitsFor_28 : decode cX10_waitsFor 28 = .ok (.iconst 0, 1) := by decide +kernel
theorem dX10_waitsFor_29 : decode cX10_waitsFor 29 = .ok (.ireturn, 1) := by decide +kernel
theorem dX10_leaves_0 : decode cX10_leaves 0 = .ok (.iconst 0, 1) := by decide +kernel
theorem dX10_leaves_1 : decode cX10_leaves 1 = .ok (.istore_n 2, 1) := by decide +kernel
theorem dX10_leaves_2 : decode cX10_leaves 2 = .ok (.iconst 0, 1) := by decide +kernel
theorem dX10_leaves_3 : decode cX10_leaves 3 = .ok (.istore_n 3, 1) := by decide +kernel
theorem dX10_leaves_4 : decode cX10_leaves 4 = .ok (.iload_n 3, 1) := by decide +kernel
theorem dX10_leaves_5 : decode cX10_leaves 5 = .ok (.aload_n 0, 1) := by decide +kernel
theorem dX10_leaves_6 : decode cX10_leaves 6 = .ok (.getfield 268, 3) := by decide +kernel
theorem dX10_leaves_9 : decode cX10_leaves 9 = .ok (.if_icmp .ge 34, 3) := by decide +kernel
theorem dX10_leaves_12 : decode cX10_leaves 12 = .ok (.aload_n 0, 1) := by decide +kernel
theorem dX10_leaves_13 : decode cX10_leaves 13 = .ok (.getfield 80, 3) := by decide +kernel
theorem dX10_leaves_16 : decode cX10_leaves 16 = .ok (.iload_n 3, 1) := by decide +kernel
theorem dX10_leaves_17 : decode cX10_leaves 17 = .ok (.iaload, 1) := by decide +kernel
theorem dX10_leaves_18 : decode cX10_leaves 18 = .ok (.iload_n 1, 1) := by decide +kernel
theorem dX10_leaves_19 : decode cX10_leaves 19 = .ok (.if_icmp .eq 18, 3) := by decide +kernel
theorem dX10_leaves_22 : decode cX10_leaves 22 = .ok (.aload_n 0, 1) := by decide +kernel
theorem dX10_leaves_23 : decode cX10_leaves 23 = .ok (.getfield 80, 3) := by decide +kernel
theorem dX10_leaves_26 : decode cX10_leaves 26 = .ok (.iload_n 2, 1) := by decide +kernel
theorem dX10_leaves_27 : decode cX10_leaves 27 = .ok (.aload_n 0, 1) := by decide +kernel
theorem dX10_leaves_28 : decode cX10_leaves 28 = .ok (.getfield 80, 3) := by decide +kernel
theorem dX10_leaves_31 : decode cX10_leaves 31 = .ok (.iload_n 3, 1) := by decide +kernel
theorem dX10_leaves_32 : decode cX10_leaves 32 = .ok (.iaload, 1) := by decide +kernel
theorem dX10_leaves_33 : decode cX10_leaves 33 = .ok (.iastore, 1) := by decide +kernel
theorem dX10_leaves_34 : decode cX10_leaves 34 = .ok (.iinc 2 1, 3) := by decide +kernel
theorem dX10_leaves_37 : decode cX10_leaves 37 = .ok (.iinc 3 1, 3) := by decide +kernel
theorem dX10_leaves_40 : decode cX10_leaves 40 = .ok (.goto (-36), 3) := by decide +kernel
theorem dX10_leaves_43 : decode cX10_leaves 43 = .ok (.aload_n 0, 1) := by decide +kernel
theorem dX10_leaves_44 : decode cX10_leaves 44 = .ok (.iload_n 2, 1) := by decide +kernel
theorem dX10_leaves_45 : decode cX10_leaves 45 = .ok (.putfield 268, 3) := by decide +kernel
theorem dX10_leaves_48 : decode cX10_leaves 48 = .ok (.return_, 1) := by decide +kernel
theorem dX10_free_0 : decode cX10_free 0 = .ok (.aload_n 0, 1) := by decide +kernel
theorem dX10_free_1 : decode cX10_free 1 = .ok (.iconst (-1), 1) := by decide +kernel
theorem dX10_free_2 : decode cX10_free 2 = .ok (.putfield 271, 3) := by decide +kernel
theorem dX10_free_5 : decode cX10_free 5 = .ok (.aload_n 0, 1) := by decide +kernel
theorem dX10_free_6 : decode cX10_free 6 = .ok (.iconst 0, 1) := by decide +kernel
theorem dX10_free_7 : decode cX10_free 7 = .ok (.putfield 274, 3) := by decide +kernel
theorem dX10_free_10 : decode cX10_free 10 = .ok (.aload_n 0, 1) := by decide +kernel
theorem dX10_free_11 : decode cX10_free 11 = .ok (.iconst 0, 1) := by decide +kernel
theorem dX10_free_12 : decode cX10_free 12 = .ok (.putfield 286, 3) := by decide +kernel
theorem dX10_free_15 : decode cX10_free 15 = .ok (.return_, 1) := by decide +kernel
theorem dX10_spoke_0 : decode cX10_spoke 0 = .ok (.iconst 0, 1) := by decide +kernel
theorem dX10_spoke_1 : decode cX10_spoke 1 = .ok (.istore_n 3, 1) := by decide +kernel
theorem dX10_spoke_2 : decode cX10_spoke 2 = .ok (.iconst 0, 1) := by decide +kernel
theorem dX10_spoke_3 : decode cX10_spoke 3 = .ok (.istore 4, 2) := by decide +kernel
theorem dX10_spoke_5 : decode cX10_spoke 5 = .ok (.iload 4, 2) := by decide +kernel
theorem dX10_spoke_7 : decode cX10_spoke 7 = .ok (.bipush 24, 2) := by decide +kernel
theorem dX10_spoke_9 : decode cX10_spoke 9 = .ok (.if_icmp .ge 51, 3) := by decide +kernel
theorem dX10_spoke_12 : decode cX10_spoke 12 = .ok (.iload_n 3, 1) := by decide +kernel
theorem dX10_spoke_13 : decode cX10_spoke 13 = .ok (.iload 4, 2) := by decide +kernel
theorem dX10_spoke_15 : decode cX10_spoke 15 = .ok (.iload_n 1, 1) := by decide +kernel
theorem dX10_spoke_16 : decode cX10_spoke 16 = .ok (.if_icmp .eq 28, 3) := by decide +kernel
theorem dX10_spoke_19 : decode cX10_spoke 19 = .ok (.aload_n 0, 1) := by decide +kernel
theorem dX10_spoke_20 : decode cX10_spoke 20 = .ok (.getfield 40, 3) := by decide +kernel
theorem dX10_spoke_23 : decode cX10_spoke 23 = .ok (.iconst 0, 1) := by decide +kernel
theorem dX10_spoke_24 : decode cX10_spoke 24 = .ok (.baload, 1) := by decide +kernel
theorem dX10_spoke_25 : decode cX10_spoke 25 = .ok (.ifCond .eq 26, 3) := by decide +kernel
theorem dX10_spoke_28 : decode cX10_spoke 28 = .ok (.aload_n 0, 1) := by decide +kernel
theorem dX10_spoke_29 : decode cX10_spoke 29 = .ok (.getfield 46, 3) := by decide +kernel
theorem dX10_spoke_32 : decode cX10_spoke 32 = .ok (.iload 4, 2) := by decide +kernel
theorem dX10_spoke_34 : decode cX10_spoke 34 = .ok (.iaload, 1) := by decide +kernel
theorem dX10_spoke_35 : decode cX10_spoke 35 = .ok (.aload_n 0, 1) := by decide +kernel
theorem dX10_spoke_36 : decode cX10_spoke 36 = .ok (.getfield 46, 3) := by decide +kernel
theorem dX10_spoke_39 : decode cX10_spoke 39 = .ok (.iload_n 1, 1) := by decide +kernel
theorem dX10_spoke_40 : decode cX10_spoke 40 = .ok (.iaload, 1) := by decide +kernel
theorem dX10_spoke_41 : decode cX10_spoke 41 = .ok (.if_icmp .ne 10, 3) := by decide +kernel
theorem dX10_spoke_44 : decode cX10_spoke 44 = .ok (.aload_n 2, 1) := by decide +kernel
theorem dX10_spoke_45 : decode cX10_spoke 45 = .ok (.iload 4, 2) := by decide +kernel
theorem dX10_spoke_47 : decode cX10_spoke 47 = .ok (.iaload, 1) := by decide +kernel
theorem dX10_spoke_48 : decode cX10_spoke 48 = .ok (.goto 4, 3) := by decide +kernel
theorem dX10_spoke_51 : decode cX10_spoke 51 = .ok (.iconst 0, 1) := by decide +kernel
theorem dX10_spoke_52 : decode cX10_spoke 52 = .ok (.iadd, 1) := by decide +kernel
theorem dX10_spoke_53 : decode cX10_spoke 53 = .ok (.istore_n 3, 1) := by decide +kernel
theorem dX10_spoke_54 : decode cX10_spoke 54 = .ok (.iinc 4 1, 3) := by decide +kernel
theorem dX10_spoke_57 : decode cX10_spoke 57 = .ok (.goto (-52), 3) := by decide +kernel
theorem dX10_spoke_60 : decode cX10_spoke 60 = .ok (.iload_n 3, 1) := by decide +kernel
theorem dX10_spoke_61 : decode cX10_spoke 61 = .ok (.ireturn, 1) := by decide +kernel
theorem dX10_next_0 : decode cX10_next 0 = .ok (.iconst 0, 1) := by decide +kernel
theorem dX10_next_1 : decode cX10_next 1 = .ok (.istore 4, 2) := by decide +kernel
theorem dX10_next_3 : decode cX10_next 3 = .ok (.iconst 1, 1) := by decide +kernel
theorem dX10_next_4 : decode cX10_next 4 = .ok (.istore 5, 2) := by decide +kernel
theorem dX10_next_6 : decode cX10_next 6 = .ok (.iload 5, 2) := by decide +kernel
theorem dX10_next_8 : decode cX10_next 8 = .ok (.iload_n 2, 1) := by decide +kernel
theorem dX10_next_9 : decode cX10_next 9 = .ok (.if_icmp .ge 39, 3) := by decide +kernel
theorem dX10_next_12 : decode cX10_next 12 = .ok (.aload_n 0, 1) := by decide +kernel
theorem dX10_next_13 : decode cX10_next 13 = .ok (.aload_n 1, 1) := by decide +kernel
theorem dX10_next_14 : decode cX10_next 14 = .ok (.iload 5, 2) := by decide +kernel
theorem dX10_next_16 : decode cX10_next 16 = .ok (.iaload, 1) := by decide +kernel
theorem dX10_next_17 : decode cX10_next 17 = .ok (.aload_n 3, 1) := by decide +kernel
theorem dX10_next_18 : decode cX10_next 18 = .ok (.invokevirtual 305, 3) := by decide +kernel
theorem dX10_next_21 : decode cX10_next 21 = .ok (.aload_n 0, 1) := by decide +kernel
theorem dX10_next_22 : decode cX10_next 22 = .ok (.aload_n 1, 1) := by decide +kernel
theorem dX10_next_23 : decode cX10_next 23 = .ok (.iload 4, 2) := by decide +kernel
theorem dX10_next_25 : decode cX10_next 25 = .ok (.iaload, 1) := by decide +kernel
theorem dX10_next_26 : decode cX10_next 26 = .ok (.aload_n 3, 1) := by decide +kernel
theorem dX10_next_27 : decode cX10_next 27 = .ok (.invokevirtual 305, 3) := by decide +kernel
theorem dX10_next_30 : decode cX10_next 30 = .ok (.if_icmp .ge 8, 3) := by decide +kernel
theorem dX10_next_33 : decode cX10_next 33 = .ok (.iload 5, 2) := by decide +kernel
theorem dX10_next_35 : decode cX10_next 35 = .ok (.goto 5, 3) := by decide +kernel
theorem dX10_next_38 : decode cX10_next 38 = .ok (.iload 4, 2) := by decide +kernel
theorem dX10_next_40 : decode cX10_next 40 = .ok (.istore 4, 2) := by decide +kernel
theorem dX10_next_42 : decode cX10_next 42 = .ok (.iinc 5 1, 3) := by decide +kernel
theorem dX10_next_45 : decode cX10_next 45 = .ok (.goto (-39), 3) := by decide +kernel
theorem dX10_next_48 : decode cX10_next 48 = .ok (.iload 4, 2) := by decide +kernel
theorem dX10_next_50 : decode cX10_next 50 = .ok (.ireturn, 1) := by decide +kernel
theorem dX10_rule_0 : decode cX10_rule 0 = .ok (.aload_n 0, 1) := by decide +kernel
theorem dX10_rule_1 : decode cX10_rule 1 = .ok (.getfield 49, 3) := by decide +kernel
theorem dX10_rule_4 : decode cX10_rule 4 = .ok (.iload_n 1, 1) := by decide +kernel
theorem dX10_rule_5 : decode cX10_rule 5 = .ok (.iaload, 1) := by decide +kernel
theorem dX10_rule_6 : decode cX10_rule 6 = .ok (.istore_n 2, 1) := by decide +kernel
theorem dX10_rule_7 : decode cX10_rule 7 = .ok (.aload_n 0, 1) := by decide +kernel
theorem dX10_rule_8 : decode cX10_rule 8 = .ok (.getfield 52, 3) := by decide +kernel
theorem dX10_rule_11 : decode cX10_rule 11 = .ok (.iload_n 1, 1) := by decide +kernel
theorem dX10_rule_12 : decode cX10_rule 12 = .ok (.iaload, 1) := by decide +kernel
theorem dX10_rule_13 : decode cX10_rule 13 = .ok (.istore_n 3, 1) := by decide +kernel
theorem dX10_rule_14 : decode cX10_rule 14 = .ok (.iload_n 2, 1) := by decide +kernel
theorem dX10_rule_15 : decode cX10_rule 15 = .ok (.iconst 3, 1) := by decide +kernel
theorem dX10_rule_16 : decode cX10_rule 16 = .ok (.if_icmp .lt 13, 3) := by decide +kernel
theorem dX10_rule_19 : decode cX10_rule 19 = .ok (.iload_n 2, 1) := by decide +kernel
theorem dX10_rule_20 : decode cX10_rule 20 = .ok (.iconst 5, 1) := by decide +kernel
theorem dX10_rule_21 : decode cX10_rule 21 = .ok (.bipush 7, 2) := by decide +kernel
theorem dX10_rule_23 : decode cX10_rule 23 = .ok (.invokestatic 184, 3) := by decide +kernel
theorem dX10_rule_26 : decode cX10_rule 26 = .ok (.ifCond .eq 7, 3) := by decide +kernel
theorem dX10_rule_29 : decode cX10_rule 29 = .ok (.iconst 1, 1) := by decide +kernel
theorem dX10_rule_30 : decode cX10_rule 30 = .ok (.goto 4, 3) := by decide +kernel
theorem dX10_rule_33 : decode cX10_rule 33 = .ok (.iconst 0, 1) := by decide +kernel
theorem dX10_rule_34 : decode cX10_rule 34 = .ok (.istore 4, 2) := by decide +kernel
theorem dX10_rule_36 : decode cX10_rule 36 = .ok (.iload 4, 2) := by decide +kernel
theorem dX10_rule_38 : decode cX10_rule 38 = .ok (.ifCond .eq 13, 3) := by decide +kernel
theorem dX10_rule_41 : decode cX10_rule 41 = .ok (.iload_n 3, 1) := by decide +kernel
theorem dX10_rule_42 : decode cX10_rule 42 = .ok (.iconst 0, 1) := by decide +kernel
theorem dX10_rule_43 : decode cX10_rule 43 = .ok (.bipush 23, 2) := by decide +kernel
theorem dX10_rule_45 : decode cX10_rule 45 = .ok (.invokestatic 184, 3) := by decide +kernel
theorem dX10_rule_48 : decode cX10_rule 48 = .ok (.ifCond .eq 12, 3) := by decide +kernel
theorem dX10_rule_51 : decode cX10_rule 51 = .ok (.aload_n 0, 1) := by decide +kernel
theorem dX10_rule_52 : decode cX10_rule 52 = .ok (.iload_n 1, 1) := by decide +kernel
theorem dX10_rule_53 : decode cX10_rule 53 = .ok (.iload_n 2, 1) := by decide +kernel
theorem dX10_rule_54 : decode cX10_rule 54 = .ok (.invokevirtual 309, 3) := by decide +kernel
theorem dX10_rule_57 : decode cX10_rule 57 = .ok (.ifCond .eq 5, 3) := by decide +kernel
theorem dX10_rule_60 : decode cX10_rule 60 = .ok (.iconst 1, 1) := by decide +kernel
theorem dX10_rule_61 : decode cX10_rule 61 = .ok (.ireturn, 1) := by decide +kernel
theorem dX10_rule_62 : decode cX10_rule 62 = .ok (.iload 4, 2) := by decide +kernel
theorem dX10_rule_64 : decode cX10_rule 64 = .ok (.ifCond .eq 23, 3) := by decide +kernel
theorem dX10_rule_67 : decode cX10_rule 67 = .ok (.aload_n 0, 1) := by decide +kernel
theorem dX10_rule_68 : decode cX10_rule 68 = .ok (.getfield 77, 3) := by decide +kernel
theorem dX10_rule_71 : decode cX10_rule 71 = .ok (.iload_n 3, 1) := by decide +kernel
theorem dX10_rule_72 : decode cX10_rule 72 = .ok (.baload, 1) := by decide +kernel
theorem dX10_rule_73 : decode cX10_rule 73 = .ok (.iload_n 2, 1) := by decide +kernel
theorem dX10_rule_74 : decode cX10_rule 74 = .ok (.ifCond .ne 7, 3) := by decide +kernel
theorem dX10_rule_77 : decode cX10_rule 77 = .ok (.iconst 1, 1) := by decide +kernel
theorem dX10_rule_78 : decode cX10_rule 78 = .ok (.goto 4, 3) := by decide +kernel
theorem dX10_rule_81 : decode cX10_rule 81 = .ok (.iconst 0, 1) := by decide +kernel
theorem dX10_rule_82 : decode cX10_rule 82 = .ok (.if_icmp .ne 5, 3) := by decide +kernel
theorem dX10_rule_85 : decode cX10_rule 85 = .ok (.iconst 2, 1) := by decide +kernel
theorem dX10_rule_86 : decode cX10_rule 86 = .ok (.ireturn, 1) := by decide +kernel
theorem dX10_rule_87 : decode cX10_rule 87 = .ok (.iload_n 2, 1) := by decide +kernel
theorem dX10_rule_88 : decode cX10_rule 88 = .ok (.iconst 2, 1) := by decide +kernel
theorem dX10_rule_89 : decode cX10_rule 89 = .ok (.if_icmp .ge 5, 3) := by decide +kernel
theorem dX10_rule_92 : decode cX10_rule 92 = .ok (.iconst 0, 1) := by decide +kernel
theorem dX10_rule_93 : decode cX10_rule 93 = .ok (.ireturn, 1) := by decide +kernel
theorem dX10_rule_94 : decode cX10_rule 94 = .ok (.aload_n 0, 1) := by decide +kernel
theorem dX10_rule_95 : decode cX10_rule 95 = .ok (.getfield 290, 3) := by decide +kernel
theorem dX10_rule_98 : decode cX10_rule 98 = .ok (.ifCond .eq 5, 3) := by decide +kernel
theorem dX10_rule_101 : decode cX10_rule 101 = .ok (.iconst 3, 1) := by decide +kernel
theorem dX10_rule_102 : decode cX10_rule 102 = .ok (.ireturn, 1) := by decide +kernel
theorem dX10_rule_103 : decode cX10_rule 103 = .ok (.aload_n 0, 1) := by decide +kernel
theorem dX10_rule_104 : decode cX10_rule 104 = .ok (.invokevirtual 313, 3) := by decide +kernel
theorem dX10_rule_107 : decode cX10_rule 107 = .ok (.aload_n 0, 1) := by decide +kernel
theorem dX10_rule_108 : decode cX10_rule 108 = .ok (.getfield 37, 3) := by decide +kernel
theorem dX10_rule_111 : decode cX10_rule 111 = .ok (.iconst 0, 1) := by decide +kernel
theorem dX10_rule_112 : decode cX10_rule 112 = .ok (.iaload, 1) := by decide +kernel
theorem dX10_rule_113 : decode cX10_rule 113 = .ok (.if_icmp .ge 5, 3) := by decide +kernel
theorem dX10_rule_116 : decode cX10_rule 116 = .ok (.iconst 4, 1) := by decide +kernel
theorem dX10_rule_117 : decode cX10_rule 117 = .ok (.ireturn, 1) := by decide +kernel
theorem dX10_rule_118 : decode cX10_rule 118 = .ok (.aload_n 0, 1) := by decide +kernel
theorem dX10_rule_119 : decode cX10_rule 119 = .ok (.getfield 283, 3) := by decide +kernel
theorem dX10_rule_122 : decode cX10_rule 122 = .ok (.ifCond .le 10, 3) := by decide +kernel
theorem dX10_rule_125 : decode cX10_rule 125 = .ok (.iload_n 2, 1) := by decide +kernel
theorem dX10_rule_126 : decode cX10_rule 126 = .ok (.iconst 4, 1) := by decide +kernel
theorem dX10_rule_127 : decode cX10_rule 127 = .ok (.if_icmp .eq 5, 3) := by decide +kernel
theorem dX10_rule_130 : decode cX10_rule 130 = .ok (.iconst 5, 1) := by decide +kernel
theorem dX10_rule_131 : decode cX10_rule 131 = .ok (.ireturn, 1) := by decide +kernel
theorem dX10_rule_132 : decode cX10_rule 132 = .ok (.aload_n 0, 1) := by decide +kernel
theorem dX10_rule_133 : decode cX10_rule 133 = .ok (.iload_n 1, 1) := by decide +kernel
theorem dX10_rule_134 : decode cX10_rule 134 = .ok (.iload_n 2, 1) := by decide +kernel
theorem dX10_rule_135 : decode cX10_rule 135 = .ok (.iload_n 3, 1) := by decide +kernel
theorem dX10_rule_136 : decode cX10_rule 136 = .ok (.invokevirtual 316, 3) := by decide +kernel
theorem dX10_rule_139 : decode cX10_rule 139 = .ok (.ifCond .eq 7, 3) := by decide +kernel
theorem dX10_rule_142 : decode cX10_rule 142 = .ok (.iconst 0, 1) := by decide +kernel
theorem dX10_rule_143 : decode cX10_rule 143 = .ok (.goto 5, 3) := by decide +kernel
theorem dX10_rule_146 : decode cX10_rule 146 = .ok (.bipush 6, 2) := by decide +kernel
theorem dX10_rule_148 : decode cX10_rule 148 = .ok (.ireturn, 1) := by decide +kernel
theorem dX10_isWrong_0 : decode cX10_isWrong 0 = .ok (.aload_n 0, 1) := by decide +kernel
theorem dX10_isWrong_1 : decode cX10_isWrong 1 = .ok (.getfield 58, 3) := by decide +kernel
theorem dX10_isWrong_4 : decode cX10_isWrong 4 = .ok (.iload_n 1, 1) := by decide +kernel
theorem dX10_isWrong_5 : decode cX10_isWrong 5 = .ok (.iaload, 1) := by decide +kernel
theorem dX10_isWrong_6 : decode cX10_isWrong 6 = .ok (.istore_n 3, 1) := by decide +kernel
theorem dX10_isWrong_7 : decode cX10_isWrong 7 = .ok (.aload_n 0, 1) := by decide +kernel
theorem dX10_isWrong_8 : decode cX10_isWrong 8 = .ok (.getfield 61, 3) := by decide +kernel
theorem dX10_isWrong_11 : decode cX10_isWrong 11 = .ok (.iload_n 1, 1) := by decide +kernel
theorem dX10_isWrong_12 : decode cX10_isWrong 12 = .ok (.iaload, 1) := by decide +kernel
theorem dX10_isWrong_13 : decode cX10_isWrong 13 = .ok (.istore 4, 2) := by decide +kernel
theorem dX10_isWrong_15 : decode cX10_isWrong 15 = .ok (.iload_n 2, 1) := by decide +kernel
theorem dX10_isWrong_16 : decode cX10_isWrong 16 = .ok (.tableswitch 199 4 9 #[40, 199, 57, 199, 101, 184], 40) := by decide +kernel
theorem dX10_isWrong_56 : decode cX10_isWrong 56 = .ok (.iload_n 3, 1) := by decide +kernel
theorem dX10_isWrong_57 : decode cX10_isWrong 57 = .ok (.iconst 1, 1) := by decide +kernel
theorem dX10_isWrong_58 : decode cX10_isWrong 58 = .ok (.sipush 9999, 3) := by decide +kernel
theorem dX10_isWrong_61 : decode cX10_isWrong 61 = .ok (.invokestatic 184, 3) := by decide +kernel
theorem dX10_isWrong_64 : decode cX10_isWrong 64 = .ok (.ifCond .ne 7, 3) := by decide +kernel
theorem dX10_isWrong_67 : decode cX10_isWrong 67 = .ok (.iconst 1, 1) := by decide +kernel
theorem dX10_isWrong_68 : decode cX10_isWrong 68 = .ok (.goto 4, 3) := by decide +kernel
theorem dX10_isWrong_71 : decode cX10_isWrong 71 = .ok (.iconst 0, 1) := by decide +kernel
theorem dX10_isWrong_72 : decode cX10_isWrong 72 = .ok (.ireturn, 1) := by decide +kernel
theorem dX10_isWrong_73 : decode cX10_isWrong 73 = .ok (.aload_n 0, 1) := by decide +kernel
theorem dX10_isWrong_74 : decode cX10_isWrong 74 = .ok (.getfield 55, 3) := by decide +kernel
theorem dX10_isWrong_77 : decode cX10_isWrong 77 = .ok (.iload_n 1, 1) := by decide +kernel
theorem dX10_isWrong_78 : decode cX10_isWrong 78 = .ok (.iaload, 1) := by decide +kernel
theorem dX10_isWrong_79 : decode cX10_isWrong 79 = .ok (.iconst 0, 1) := by decide +kernel
theorem dX10_isWrong_80 : decode cX10_isWrong 80 = .ok (.bipush 7, 2) := by decide +kernel
theorem dX10_isWrong_82 : decode cX10_isWrong 82 = .ok (.invokestatic 184, 3) := by decide +kernel
theorem dX10_isWrong_85 : decode cX10_isWrong 85 = .ok (.ifCond .eq 26, 3) := by decide +kernel
theorem dX10_isWrong_88 : decode cX10_isWrong 88 = .ok (.iload_n 3, 1) := by decide +kernel
theorem dX10_isWrong_89 : decode cX10_isWrong 89 = .ok (.iconst 0, 1) := by decide +kernel
theorem dX10_isWrong_90 : decode cX10_isWrong 90 = .ok (.sipush 999, 3) := by decide +kernel
theorem dX10_isWrong_93 : decode cX10_isWrong 93 = .ok (.invokestatic 184, 3) := by decide +kernel
theorem dX10_isWrong_96 : decode cX10_isWrong 96 = .ok (.ifCond .eq 15, 3) := by decide +kernel
theorem dX10_isWrong_99 : decode cX10_isWrong 99 = .ok (.iload 4, 2) := by decide +kernel
theorem dX10_isWrong_101 : decode cX10_isWrong 101 = .ok (.iconst 0, 1) := by decide +kernel
theorem dX10_isWrong_102 : decode cX10_isWrong 102 = .ok (.sipush 999, 3) := by decide +kernel
theorem dX10_isWrong_105 : decode cX10_isWrong 105 = .ok (.invokestatic 184, 3) := by decide +kernel
theorem dX10_isWrong_108 : decode cX10_isWrong 108 = .ok (.ifCond .ne 7, 3) := by decide +kernel
theorem dX10_isWrong_111 : decode cX10_isWrong 111 = .ok (.iconst 1, 1) := by decide +kernel
theorem dX10_isWrong_112 : decode cX10_isWrong 112 = .ok (.goto 4, 3) := by decide +kernel
theorem dX10_isWrong_115 : decode cX10_isWrong 115 = .ok (.iconst 0, 1) := by decide +kernel
theorem dX10_isWrong_116 : decode cX10_isWrong 116 = .ok (.ireturn, 1) := by decide +kernel
theorem dX10_isWrong_117 : decode cX10_isWrong 117 = .ok (.iload_n 3, 1) := by decide +kernel
theorem dX10_isWrong_118 : decode cX10_isWrong 118 = .ok (.iload 4, 2) := by decide +kernel
theorem dX10_isWrong_120 : decode cX10_isWrong 120 = .ok (.iand, 1) := by decide +kernel
end
section
theorem dX10_isWrong_121 : decode cX10_isWrong 121 = .ok (.ifCond .ne 18, 3) := by decide +kernel
theorem dX10_isWrong_124 : decode cX10_isWrong 124 = .ok (.iload_n 3, 1) := by decide +kernel
theorem dX10_isWrong_125 : decode cX10_isWrong 125 = .ok (.bipush 24, 2) := by decide +kernel
theorem dX10_isWrong_127 : decode cX10_isWrong 127 = .ok (.ishr, 1) := by decide +kernel
theorem dX10_isWrong_128 : decode cX10_isWrong 128 = .ok (.ifCond .ne 11, 3) := by decide +kernel
theorem dX10_isWrong_131 : decode cX10_isWrong 131 = .ok (.iload 4, 2) := by decide +kernel
theorem dX10_isWrong_133 : decode cX10_isWrong 133 = .ok (.bipush 24, 2) := by decide +kernel
theorem dX10_isWrong_135 : decode cX10_isWrong 135 = .ok (.ishr, 1) := by decide +kernel
theorem dX10_isWrong_136 : decode cX10_isWrong 136 = .ok (.ifCond .eq 7, 3) := by decide +kernel
theorem dX10_isWrong_139 : decode cX10_isWrong 139 = .ok (.iconst 1, 1) := by decide +kernel
theorem dX10_isWrong_140 : decode cX10_isWrong 140 = .ok (.goto 4, 3) := by decide +kernel
theorem dX10_isWrong_143 : decode cX10_isWrong 143 = .ok (.iconst 0, 1) := by decide +kernel
theorem dX10_isWrong_144 : decode cX10_isWrong 144 = .ok (.istore 5, 2) := by decide +kernel
theorem dX10_isWrong_146 : decode cX10_isWrong 146 = .ok (.iconst 0, 1) := by decide +kernel
theorem dX10_isWrong_147 : decode cX10_isWrong 147 = .ok (.istore 6, 2) := by decide +kernel
theorem dX10_isWrong_149 : decode cX10_isWrong 149 = .ok (.iload 6, 2) := by decide +kernel
theorem dX10_isWrong_151 : decode cX10_isWrong 151 = .ok (.bipush 24, 2) := by decide +kernel
theorem dX10_isWrong_153 : decode cX10_isWrong 153 = .ok (.if_icmp .ge 44, 3) := by decide +kernel
theorem dX10_isWrong_156 : decode cX10_isWrong 156 = .ok (.iload 5, 2) := by decide +kernel
theorem dX10_isWrong_158 : decode cX10_isWrong 158 = .ok (.ifCond .ne 26, 3) := by decide +kernel
theorem dX10_isWrong_161 : decode cX10_isWrong 161 = .ok (.iload_n 3, 1) := by decide +kernel
theorem dX10_isWrong_162 : decode cX10_isWrong 162 = .ok (.iload 4, 2) := by decide +kernel
theorem dX10_isWrong_164 : decode cX10_isWrong 164 = .ok (.ior, 1) := by decide +kernel
theorem dX10_isWrong_165 : decode cX10_isWrong 165 = .ok (.iload 6, 2) := by decide +kernel
theorem dX10_isWrong_167 : decode cX10_isWrong 167 = .ok (.ishr, 1) := by decide +kernel
theorem dX10_isWrong_168 : decode cX10_isWrong 168 = .ok (.iconst 1, 1) := by decide +kernel
theorem dX10_isWrong_169 : decode cX10_isWrong 169 = .ok (.iand, 1) := by decide +kernel
theorem dX10_isWrong_170 : decode cX10_isWrong 170 = .ok (.iconst 1, 1) := by decide +kernel
theorem dX10_isWrong_171 : decode cX10_isWrong 171 = .ok (.if_icmp .ne 17, 3) := by decide +kernel
theorem dX10_isWrong_174 : decode cX10_isWrong 174 = .ok (.aload_n 0, 1) := by decide +kernel
theorem dX10_isWrong_175 : decode cX10_isWrong 175 = .ok (.getfield 77, 3) := by decide +kernel
theorem dX10_isWrong_178 : decode cX10_isWrong 178 = .ok (.iload 6, 2) := by decide +kernel
theorem dX10_isWrong_180 : decode cX10_isWrong 180 = .ok (.baload, 1) := by decide +kernel
theorem dX10_isWrong_181 : decode cX10_isWrong 181 = .ok (.ifCond .ne 7, 3) := by decide +kernel
theorem dX10_isWrong_184 : decode cX10_isWrong 184 = .ok (.iconst 1, 1) := by decide +kernel
theorem dX10_isWrong_185 : decode cX10_isWrong 185 = .ok (.goto 4, 3) := by decide +kernel
theorem dX10_isWrong_188 : decode cX10_isWrong 188 = .ok (.iconst 0, 1) := by decide +kernel
theorem dX10_isWrong_189 : decode cX10_isWrong 189 = .ok (.istore 5, 2) := by decide +kernel
theorem dX10_isWrong_191 : decode cX10_isWrong 191 = .ok (.iinc 6 1, 3) := by decide +kernel
theorem dX10_isWrong_194 : decode cX10_isWrong 194 = .ok (.goto (-45), 3) := by decide +kernel
theorem dX10_isWrong_197 : decode cX10_isWrong 197 = .ok (.iload 5, 2) := by decide +kernel
theorem dX10_isWrong_199 : decode cX10_isWrong 199 = .ok (.ireturn, 1) := by decide +kernel
theorem dX10_isWrong_200 : decode cX10_isWrong 200 = .ok (.iload_n 3, 1) := by decide +kernel
theorem dX10_isWrong_201 : decode cX10_isWrong 201 = .ok (.iconst 0, 1) := by decide +kernel
theorem dX10_isWrong_202 : decode cX10_isWrong 202 = .ok (.iconst 1, 1) := by decide +kernel
theorem dX10_isWrong_203 : decode cX10_isWrong 203 = .ok (.invokestatic 184, 3) := by decide +kernel
theorem dX10_isWrong_206 : decode cX10_isWrong 206 = .ok (.ifCond .ne 7, 3) := by decide +kernel
theorem dX10_isWrong_209 : decode cX10_isWrong 209 = .ok (.iconst 1, 1) := by decide +kernel
theorem dX10_isWrong_210 : decode cX10_isWrong 210 = .ok (.goto 4, 3) := by decide +kernel
theorem dX10_isWrong_213 : decode cX10_isWrong 213 = .ok (.iconst 0, 1) := by decide +kernel
theorem dX10_isWrong_214 : decode cX10_isWrong 214 = .ok (.ireturn, 1) := by decide +kernel
theorem dX10_isWrong_215 : decode cX10_isWrong 215 = .ok (.iconst 0, 1) := by decide +kernel
theorem dX10_isWrong_216 : decode cX10_isWrong 216 = .ok (.ireturn, 1) := by decide +kernel
theorem dX10_isInOrder_0 : decode cX10_isInOrder 0 = .ok (.aload_n 0, 1) := by decide +kernel
theorem dX10_isInOrder_1 : decode cX10_isInOrder 1 = .ok (.getfield 293, 3) := by decide +kernel
theorem dX10_isInOrder_4 : decode cX10_isInOrder 4 = .ok (.iconst 1, 1) := by decide +kernel
theorem dX10_isInOrder_5 : decode cX10_isInOrder 5 = .ok (.isub, 1) := by decide +kernel
theorem dX10_isInOrder_6 : decode cX10_isInOrder 6 = .ok (.istore 4, 2) := by decide +kernel
theorem dX10_isInOrder_8 : decode cX10_isInOrder 8 = .ok (.iload_n 2, 1) := by decide +kernel
theorem dX10_isInOrder_9 : decode cX10_isInOrder 9 = .ok (.tableswitch 163 2 7 #[39, 61, 82, 84, 122, 129], 39) := by decide +kernel
theorem dX10_isInOrder_48 : decode cX10_isInOrder 48 = .ok (.aload_n 0, 1) := by decide +kernel
theorem dX10_isInOrder_49 : decode cX10_isInOrder 49 = .ok (.iload_n 3, 1) := by decide +kernel
theorem dX10_isInOrder_50 : decode cX10_isInOrder 50 = .ok (.invokevirtual 319, 3) := by decide +kernel
theorem dX10_isInOrder_53 : decode cX10_isInOrder 53 = .ok (.ifCond .ne 15, 3) := by decide +kernel
theorem dX10_isInOrder_56 : decode cX10_isInOrder 56 = .ok (.aload_n 0, 1) := by decide +kernel
theorem dX10_isInOrder_57 : decode cX10_isInOrder 57 = .ok (.getfield 271, 3) := by decide +kernel
theorem dX10_isInOrder_60 : decode cX10_isInOrder 60 = .ok (.iload_n 3, 1) := by decide +kernel
theorem dX10_isInOrder_61 : decode cX10_isInOrder 61 = .ok (.if_icmp .eq 7, 3) := by decide +kernel
theorem dX10_isInOrder_64 : decode cX10_isInOrder 64 = .ok (.iconst 1, 1) := by decide +kernel
theorem dX10_isInOrder_65 : decode cX10_isInOrder 65 = .ok (.goto 4, 3) := by decide +kernel
theorem dX10_isInOrder_68 : decode cX10_isInOrder 68 = .ok (.iconst 0, 1) := by decide +kernel
theorem dX10_isInOrder_69 : decode cX10_isInOrder 69 = .ok (.ireturn, 1) := by decide +kernel
theorem dX10_isInOrder_70 : decode cX10_isInOrder 70 = .ok (.aload_n 0, 1) := by decide +kernel
theorem dX10_isInOrder_71 : decode cX10_isInOrder 71 = .ok (.getfield 268, 3) := by decide +kernel
theorem dX10_isInOrder_74 : decode cX10_isInOrder 74 = .ok (.ifCond .le 15, 3) := by decide +kernel
theorem dX10_isInOrder_77 : decode cX10_isInOrder 77 = .ok (.aload_n 0, 1) := by decide +kernel
theorem dX10_isInOrder_78 : decode cX10_isInOrder 78 = .ok (.getfield 271, 3) := by decide +kernel
theorem dX10_isInOrder_81 : decode cX10_isInOrder 81 = .ok (.iconst (-1), 1) := by decide +kernel
theorem dX10_isInOrder_82 : decode cX10_isInOrder 82 = .ok (.if_icmp .ne 7, 3) := by decide +kernel
theorem dX10_isInOrder_85 : decode cX10_isInOrder 85 = .ok (.iconst 1, 1) := by decide +kernel
theorem dX10_isInOrder_86 : decode cX10_isInOrder 86 = .ok (.goto 4, 3) := by decide +kernel
theorem dX10_isInOrder_89 : decode cX10_isInOrder 89 = .ok (.iconst 0, 1) := by decide +kernel
theorem dX10_isInOrder_90 : decode cX10_isInOrder 90 = .ok (.ireturn, 1) := by decide +kernel
theorem dX10_isInOrder_91 : decode cX10_isInOrder 91 = .ok (.iconst 1, 1) := by decide +kernel
theorem dX10_isInOrder_92 : decode cX10_isInOrder 92 = .ok (.ireturn, 1) := by decide +kernel
theorem dX10_isInOrder_93 : decode cX10_isInOrder 93 = .ok (.aload_n 0, 1) := by decide +kernel
theorem dX10_isInOrder_94 : decode cX10_isInOrder 94 = .ok (.getfield 271, 3) := by decide +kernel
theorem dX10_isInOrder_97 : decode cX10_isInOrder 97 = .ok (.iconst (-1), 1) := by decide +kernel
theorem dX10_isInOrder_98 : decode cX10_isInOrder 98 = .ok (.if_icmp .eq 31, 3) := by decide +kernel
theorem dX10_isInOrder_101 : decode cX10_isInOrder 101 = .ok (.aload_n 0, 1) := by decide +kernel
theorem dX10_isInOrder_102 : decode cX10_isInOrder 102 = .ok (.getfield 271, 3) := by decide +kernel
theorem dX10_isInOrder_105 : decode cX10_isInOrder 105 = .ok (.iload_n 3, 1) := by decide +kernel
theorem dX10_isInOrder_106 : decode cX10_isInOrder 106 = .ok (.if_icmp .eq 23, 3) := by decide +kernel
theorem dX10_isInOrder_109 : decode cX10_isInOrder 109 = .ok (.aload_n 0, 1) := by decide +kernel
theorem dX10_isInOrder_110 : decode cX10_isInOrder 110 = .ok (.getfield 286, 3) := by decide +kernel
theorem dX10_isInOrder_113 : decode cX10_isInOrder 113 = .ok (.ifCond .ne 16, 3) := by decide +kernel
theorem dX10_isInOrder_116 : decode cX10_isInOrder 116 = .ok (.aload_n 0, 1) := by decide +kernel
theorem dX10_isInOrder_117 : decode cX10_isInOrder 117 = .ok (.getfield 43, 3) := by decide +kernel
theorem dX10_isInOrder_120 : decode cX10_isInOrder 120 = .ok (.iconst 0, 1) := by decide +kernel
theorem dX10_isInOrder_121 : decode cX10_isInOrder 121 = .ok (.baload, 1) := by decide +kernel
theorem dX10_isInOrder_122 : decode cX10_isInOrder 122 = .ok (.ifCond .eq 7, 3) := by decide +kernel
theorem dX10_isInOrder_125 : decode cX10_isInOrder 125 = .ok (.iconst 1, 1) := by decide +kernel
theorem dX10_isInOrder_126 : decode cX10_isInOrder 126 = .ok (.goto 4, 3) := by decide +kernel
theorem dX10_isInOrder_129 : decode cX10_isInOrder 129 = .ok (.iconst 0, 1) := by decide +kernel
theorem dX10_isInOrder_130 : decode cX10_isInOrder 130 = .ok (.ireturn, 1) := by decide +kernel
theorem dX10_isInOrder_131 : decode cX10_isInOrder 131 = .ok (.aload_n 0, 1) := by decide +kernel
theorem dX10_isInOrder_132 : decode cX10_isInOrder 132 = .ok (.iload_n 1, 1) := by decide +kernel
theorem dX10_isInOrder_133 : decode cX10_isInOrder 133 = .ok (.iload_n 3, 1) := by decide +kernel
theorem dX10_isInOrder_134 : decode cX10_isInOrder 134 = .ok (.invokevirtual 323, 3) := by decide +kernel
theorem dX10_isInOrder_137 : decode cX10_isInOrder 137 = .ok (.ireturn, 1) := by decide +kernel
theorem dX10_isInOrder_138 : decode cX10_isInOrder 138 = .ok (.aload_n 0, 1) := by decide +kernel
theorem dX10_isInOrder_139 : decode cX10_isInOrder 139 = .ok (.getfield 293, 3) := by decide +kernel
theorem dX10_isInOrder_142 : decode cX10_isInOrder 142 = .ok (.ifCond .le 28, 3) := by decide +kernel
theorem dX10_isInOrder_145 : decode cX10_isInOrder 145 = .ok (.aload_n 0, 1) := by decide +kernel
theorem dX10_isInOrder_146 : decode cX10_isInOrder 146 = .ok (.getfield 101, 3) := by decide +kernel
theorem dX10_isInOrder_149 : decode cX10_isInOrder 149 = .ok (.iload 4, 2) := by decide +kernel
theorem dX10_isInOrder_151 : decode cX10_isInOrder 151 = .ok (.baload, 1) := by decide +kernel
theorem dX10_isInOrder_152 : decode cX10_isInOrder 152 = .ok (.ifCond .ne 18, 3) := by decide +kernel
theorem dX10_isInOrder_155 : decode cX10_isInOrder 155 = .ok (.aload_n 0, 1) := by decide +kernel
theorem dX10_isInOrder_156 : decode cX10_isInOrder 156 = .ok (.getfield 89, 3) := by decide +kernel
theorem dX10_isInOrder_159 : decode cX10_isInOrder 159 = .ok (.iload 4, 2) := by decide +kernel
theorem dX10_isInOrder_161 : decode cX10_isInOrder 161 = .ok (.iaload, 1) := by decide +kernel
theorem dX10_isInOrder_162 : decode cX10_isInOrder 162 = .ok (.iload_n 3, 1) := by decide +kernel
theorem dX10_isInOrder_163 : decode cX10_isInOrder 163 = .ok (.if_icmp .eq 7, 3) := by decide +kernel
theorem dX10_isInOrder_166 : decode cX10_isInOrder 166 = .ok (.iconst 1, 1) := by decide +kernel
theorem dX10_isInOrder_167 : decode cX10_isInOrder 167 = .ok (.goto 4, 3) := by decide +kernel
theorem dX10_isInOrder_170 : decode cX10_isInOrder 170 = .ok (.iconst 0, 1) := by decide +kernel
theorem dX10_isInOrder_171 : decode cX10_isInOrder 171 = .ok (.ireturn, 1) := by decide +kernel
theorem dX10_isInOrder_172 : decode cX10_isInOrder 172 = .ok (.aload_n 0, 1) := by decide +kernel
theorem dX10_isInOrder_173 : decode cX10_isInOrder 173 = .ok (.getfield 293, 3) := by decide +kernel
theorem dX10_isInOrder_176 : decode cX10_isInOrder 176 = .ok (.ifCond .eq 23, 3) := by decide +kernel
theorem dX10_isInOrder_179 : decode cX10_isInOrder 179 = .ok (.aload_n 0, 1) := by decide +kernel
theorem dX10_isInOrder_180 : decode cX10_isInOrder 180 = .ok (.getfield 101, 3) := by decide +kernel
theorem dX10_isInOrder_183 : decode cX10_isInOrder 183 = .ok (.iload 4, 2) := by decide +kernel
theorem dX10_isInOrder_185 : decode cX10_isInOrder 185 = .ok (.baload, 1) := by decide +kernel
theorem dX10_isInOrder_186 : decode cX10_isInOrder 186 = .ok (.ifCond .eq 13, 3) := by decide +kernel
theorem dX10_isInOrder_189 : decode cX10_isInOrder 189 = .ok (.aload_n 0, 1) := by decide +kernel
theorem dX10_isInOrder_190 : decode cX10_isInOrder 190 = .ok (.getfield 104, 3) := by decide +kernel
theorem dX10_isInOrder_193 : decode cX10_isInOrder 193 = .ok (.iload 4, 2) := by decide +kernel
theorem dX10_isInOrder_195 : decode cX10_isInOrder 195 = .ok (.baload, 1) := by decide +kernel
theorem dX10_isInOrder_196 : decode cX10_isInOrder 196 = .ok (.ifCond .ne 5, 3) := by decide +kernel
theorem dX10_isInOrder_199 : decode cX10_isInOrder 199 = .ok (.iconst 0, 1) := by decide +kernel
theorem dX10_isInOrder_200 : decode cX10_isInOrder 200 = .ok (.ireturn, 1) := by decide +kernel
theorem dX10_isInOrder_201 : decode cX10_isInOrder 201 = .ok (.aload_n 0, 1) := by decide +kernel
theorem dX10_isInOrder_202 : decode cX10_isInOrder 202 = .ok (.getfield 22, 3) := by decide +kernel
theorem dX10_isInOrder_205 : decode cX10_isInOrder 205 = .ok (.iconst 0, 1) := by decide +kernel
theorem dX10_isInOrder_206 : decode cX10_isInOrder 206 = .ok (.aaload, 1) := by decide +kernel
theorem dX10_isInOrder_207 : decode cX10_isInOrder 207 = .ok (.aload_n 0, 1) := by decide +kernel
theorem dX10_isInOrder_208 : decode cX10_isInOrder 208 = .ok (.getfield 86, 3) := by decide +kernel
theorem dX10_isInOrder_211 : decode cX10_isInOrder 211 = .ok (.iload 4, 2) := by decide +kernel
theorem dX10_isInOrder_213 : decode cX10_isInOrder 213 = .ok (.iaload, 1) := by decide +kernel
theorem dX10_isInOrder_214 : decode cX10_isInOrder 214 = .ok (.iaload, 1) := by decide +kernel
theorem dX10_isInOrder_215 : decode cX10_isInOrder 215 = .ok (.iconst 3, 1) := by decide +kernel
theorem dX10_isInOrder_216 : decode cX10_isInOrder 216 = .ok (.if_icmp .ne 7, 3) := by decide +kernel
theorem dX10_isInOrder_219 : decode cX10_isInOrder 219 = .ok (.iconst 1, 1) := by decide +kernel
theorem dX10_isInOrder_220 : decode cX10_isInOrder 220 = .ok (.goto 4, 3) := by decide +kernel
theorem dX10_isInOrder_223 : decode cX10_isInOrder 223 = .ok (.iconst 0, 1) := by decide +kernel
theorem dX10_isInOrder_224 : decode cX10_isInOrder 224 = .ok (.iload_n 2, 1) := by decide +kernel
theorem dX10_isInOrder_225 : decode cX10_isInOrder 225 = .ok (.bipush 9, 2) := by decide +kernel
theorem dX10_isInOrder_227 : decode cX10_isInOrder 227 = .ok (.if_icmp .ne 7, 3) := by decide +kernel
theorem dX10_isInOrder_230 : decode cX10_isInOrder 230 = .ok (.iconst 1, 1) := by decide +kernel
theorem dX10_isInOrder_231 : decode cX10_isInOrder 231 = .ok (.goto 4, 3) := by decide +kernel
theorem dX10_isInOrder_234 : decode cX10_isInOrder 234 = .ok (.iconst 0, 1) := by decide +kernel
theorem dX10_isInOrder_235 : decode cX10_isInOrder 235 = .ok (.if_icmp .ne 7, 3) := by decide +kernel
theorem dX10_isInOrder_238 : decode cX10_isInOrder 238 = .ok (.iconst 1, 1) := by decide +kernel
theorem dX10_isInOrder_239 : decode cX10_isInOrder 239 = .ok (.goto 4, 3) := by decide +kernel
theorem dX10_isInOrder_242 : decode cX10_isInOrder 242 = .ok (.iconst 0, 1) := by decide +kernel
theorem dX10_isInOrder_243 : decode cX10_isInOrder 243 = .ok (.ireturn, 1) := by decide +kernel
theorem dX10_refused_0 : decode cX10_refused 0 = .ok (.iload_n 1, 1) := by decide +kernel
theorem dX10_refused_1 : decode cX10_refused 1 = .ok (.iconst 1, 1) := by decide +kernel
theorem dX10_refused_2 : decode cX10_refused 2 = .ok (.isub, 1) := by decide +kernel
theorem dX10_refused_3 : decode cX10_refused 3 = .ok (.istore_n 2, 1) := by decide +kernel
theorem dX10_refused_4 : decode cX10_refused 4 = .ok (.iload_n 2, 1) := by decide +kernel
theorem dX10_refused_5 : decode cX10_refused 5 = .ok (.ifCond .lt 48, 3) := by decide +kernel
theorem dX10_refused_8 : decode cX10_refused 8 = .ok (.aload_n 0, 1) := by decide +kernel
theorem dX10_refused_9 : decode cX10_refused 9 = .ok (.getfield 64, 3) := by decide +kernel
theorem dX10_refused_12 : decode cX10_refused 12 = .ok (.aload_n 0, 1) := by decide +kernel
theorem dX10_refused_13 : decode cX10_refused 13 = .ok (.getfield 265, 3) := by decide +kernel
theorem dX10_refused_16 : decode cX10_refused 16 = .ok (.aaload, 1) := by decide +kernel
theorem dX10_refused_17 : decode cX10_refused 17 = .ok (.iload_n 2, 1) := by decide +kernel
theorem dX10_refused_18 : decode cX10_refused 18 = .ok (.iaload, 1) := by decide +kernel
theorem dX10_refused_19 : decode cX10_refused 19 = .ok (.bipush 6, 2) := by decide +kernel
theorem dX10_refused_21 : decode cX10_refused 21 = .ok (.if_icmp .ne 26, 3) := by decide +kernel
theorem dX10_refused_24 : decode cX10_refused 24 = .ok (.aload_n 0, 1) := by decide +kernel
theorem dX10_refused_25 : decode cX10_refused 25 = .ok (.getfield 49, 3) := by decide +kernel
theorem dX10_refused_28 : decode cX10_refused 28 = .ok (.iload_n 2, 1) := by decide +kernel
theorem dX10_refused_29 : decode cX10_refused 29 = .ok (.iaload, 1) := by decide +kernel
theorem dX10_refused_30 : decode cX10_refused 30 = .ok (.bipush 6, 2) := by decide +kernel
theorem dX10_refused_32 : decode cX10_refused 32 = .ok (.if_icmp .eq 13, 3) := by decide +kernel
theorem dX10_refused_35 : decode cX10_refused 35 = .ok (.aload_n 0, 1) := by decide +kernel
theorem dX10_refused_36 : decode cX10_refused 36 = .ok (.getfield 49, 3) := by decide +kernel
theorem dX10_refused_39 : decode cX10_refused 39 = .ok (.iload_n 2, 1) := by decide +kernel
theorem dX10_refused_40 : decode cX10_refused 40 = .ok (.iaload, 1) := by decide +kernel
theorem dX10_refused_41 : decode cX10_refused 41 = .ok (.iconst 5, 1) := by decide +kernel
theorem dX10_refused_42 : decode cX10_refused 42 = .ok (.if_icmp .ne 5, 3) := by decide +kernel
theorem dX10_refused_45 : decode cX10_refused 45 = .ok (.iload_n 2, 1) := by decide +kernel
theorem dX10_refused_46 : decode cX10_refused 46 = .ok (.ireturn, 1) := by decide +kernel
theorem dX10_refused_47 : decode cX10_refused 47 = .ok (.iinc 2 (-1), 3) := by decide +kernel
theorem dX10_refused_50 : decode cX10_refused 50 = .ok (.goto (-46), 3) := by decide +kernel
theorem dX10_refused_53 : decode cX10_refused 53 = .ok (.iconst (-1), 1) := by decide +kernel
theorem dX10_refused_54 : decode cX10_refused 54 = .ok (.ireturn, 1) := by decide +kernel
theorem dX10_mayMove_0 : decode cX10_mayMove 0 = .ok (.aload_n 0, 1) := by decide +kernel
theorem dX10_mayMove_1 : decode cX10_mayMove 1 = .ok (.getfield 55, 3) := by decide +kernel
theorem dX10_mayMove_4 : decode cX10_mayMove 4 = .ok (.iload_n 1, 1) := by decide +kernel
theorem dX10_mayMove_5 : decode cX10_mayMove 5 = .ok (.iaload, 1) := by decide +kernel
theorem dX10_mayMove_6 : decode cX10_mayMove 6 = .ok (.istore_n 3, 1) := by decide +kernel
theorem dX10_mayMove_7 : decode cX10_mayMove 7 = .ok (.aload_n 0, 1) := by decide +kernel
theorem dX10_mayMove_8 : decode cX10_mayMove 8 = .ok (.getfield 58, 3) := by decide +kernel
theorem dX10_mayMove_11 : decode cX10_mayMove 11 = .ok (.iload_n 1, 1) := by decide +kernel
theorem dX10_mayMove_12 : decode cX10_mayMove 12 = .ok (.iaload, 1) := by decide +kernel
theorem dX10_mayMove_13 : decode cX10_mayMove 13 = .ok (.istore 4, 2) := by decide +kernel
theorem dX10_mayMove_15 : decode cX10_mayMove 15 = .ok (.aload_n 0, 1) := by decide +kernel
theorem dX10_mayMove_16 : decode cX10_mayMove 16 = .ok (.getfield 19, 3) := by decide +kernel
theorem dX10_mayMove_19 : decode cX10_mayMove 19 = .ok (.iconst 0, 1) := by decide +kernel
theorem dX10_mayMove_20 : decode cX10_mayMove 20 = .ok (.aaload, 1) := by decide +kernel
theorem dX10_mayMove_21 : decode cX10_mayMove 21 = .ok (.iload_n 3, 1) := by decide +kernel
theorem dX10_mayMove_22 : decode cX10_mayMove 22 = .ok (.iaload, 1) := by decide +kernel
theorem dX10_mayMove_23 : decode cX10_mayMove 23 = .ok (.ifCond .eq 12, 3) := by decide +kernel
theorem dX10_mayMove_26 : decode cX10_mayMove 26 = .ok (.aload_n 0, 1) := by decide +kernel
theorem dX10_mayMove_27 : decode cX10_mayMove 27 = .ok (.getfield 293, 3) := by decide +kernel
theorem dX10_mayMove_30 : decode cX10_mayMove 30 = .ok (.bipush 8, 2) := by decide +kernel
theorem dX10_mayMove_32 : decode cX10_mayMove 32 = .ok (.if_icmp .lt 5, 3) := by decide +kernel
theorem dX10_mayMove_35 : decode cX10_mayMove 35 = .ok (.iconst 0, 1) := by decide +kernel
theorem dX10_mayMove_36 : decode cX10_mayMove 36 = .ok (.ireturn, 1) := by decide +kernel
theorem dX10_mayMove_37 : decode cX10_mayMove 37 = .ok (.iload_n 3, 1) := by decide +kernel
theorem dX10_mayMove_38 : decode cX10_mayMove 38 = .ok (.bipush 7, 2) := by decide +kernel
theorem dX10_mayMove_40 : decode cX10_mayMove 40 = .ok (.if_icmp .ne 64, 3) := by decide +kernel
theorem dX10_mayMove_43 : decode cX10_mayMove 43 = .ok (.iconst 0, 1) := by decide +kernel
theorem dX10_mayMove_44 : decode cX10_mayMove 44 = .ok (.istore 5, 2) := by decide +kernel
theorem dX10_mayMove_46 : decode cX10_mayMove 46 = .ok (.iload 5, 2) := by decide +kernel
theorem dX10_mayMove_48 : decode cX10_mayMove 48 = .ok (.aload_n 0, 1) := by decide +kernel
theorem dX10_mayMove_49 : decode cX10_mayMove 49 = .ok (.getfield 293, 3) := by decide +kernel
theorem dX10_mayMove_52 : decode cX10_mayMove 52 = .ok (.if_icmp .ge 23, 3) := by decide +kernel
theorem dX10_mayMove_55 : decode cX10_mayMove 55 = .ok (.aload_n 0, 1) := by decide +kernel
theorem dX10_mayMove_56 : decode cX10_mayMove 56 = .ok (.getfield 86, 3) := by decide +kernel
theorem dX10_mayMove_59 : decode cX10_mayMove 59 = .ok (.iload 5, 2) := by decide +kernel
theorem dX10_mayMove_61 : decode cX10_mayMove 61 = .ok (.iaload, 1) := by decide +kernel
theorem dX10_mayMove_62 : decode cX10_mayMove 62 = .ok (.bipush 7, 2) := by decide +kernel
theorem dX10_mayMove_64 : decode cX10_mayMove 64 = .ok (.if_icmp .ne 5, 3) := by decide +kernel
theorem dX10_mayMove_67 : decode cX10_mayMove 67 = .ok (.iconst 0, 1) := by decide +kernel
theorem dX10_mayMove_68 : decode cX10_mayMove 68 = .ok (.ireturn, 1) := by decide +kernel
theorem dX10_mayMove_69 : decode cX10_mayMove 69 = .ok (.iinc 5 1, 3) := by decide +kernel
theorem dX10_mayMove_72 : decode cX10_mayMove 72 = .ok (.goto (-26), 3) := by decide +kernel
theorem dX10_mayMove_75 : decode cX10_mayMove 75 = .ok (.aload_n 0, 1) := by decide +kernel
theorem dX10_mayMove_76 : decode cX10_mayMove 76 = .ok (.iload_n 1, 1) := by decide +kernel
theorem dX10_mayMove_77 : decode cX10_mayMove 77 = .ok (.invokevirtual 326, 3) := by decide +kernel
theorem dX10_mayMove_80 : decode cX10_mayMove 80 = .ok (.istore 5, 2) := by decide +kernel
theorem dX10_mayMove_82 : decode cX10_mayMove 82 = .ok (.iload 5, 2) := by decide +kernel
theorem dX10_mayMove_84 : decode cX10_mayMove 84 = .ok (.iconst (-1), 1) := by decide +kernel
theorem dX10_mayMove_85 : decode cX10_mayMove 85 = .ok (.if_icmp .eq 17, 3) := by decide +kernel
theorem dX10_mayMove_88 : decode cX10_mayMove 88 = .ok (.aload_n 0, 1) := by decide +kernel
theorem dX10_mayMove_89 : decode cX10_mayMove 89 = .ok (.getfield 107, 3) := by decide +kernel
theorem dX10_mayMove_92 : decode cX10_mayMove 92 = .ok (.iload 5, 2) := by decide +kernel
theorem dX10_mayMove_94 : decode cX10_mayMove 94 = .ok (.baload, 1) := by decide +kernel
theorem dX10_mayMove_95 : decode cX10_mayMove 95 = .ok (.ifCond .ne 7, 3) := by decide +kernel
theorem dX10_mayMove_98 : decode cX10_mayMove 98 = .ok (.iconst 1, 1) := by decide +kernel
theorem dX10_mayMove_99 : decode cX10_mayMove 99 = .ok (.goto 4, 3) := by decide +kernel
theorem dX10_mayMove_102 : decode cX10_mayMove 102 = .ok (.iconst 0, 1) := by decide +kernel
theorem dX10_mayMove_103 : decode cX10_mayMove 103 = .ok (.ireturn, 1) := by decide +kernel
theorem dX10_mayMove_104 : decode cX10_mayMove 104 = .ok (.aload_n 0, 1) := by decide +kernel
theorem dX10_mayMove_105 : decode cX10_mayMove 105 = .ok (.getfield 293, 3) := by decide +kernel
theorem dX10_mayMove_108 : decode cX10_mayMove 108 = .ok (.ifCond .le 32, 3) := by decide +kernel
theorem dX10_mayMove_111 : decode cX10_mayMove 111 = .ok (.aload_n 0, 1) := by decide +kernel
theorem dX10_mayMove_112 : decode cX10_mayMove 112 = .ok (.getfield 19, 3) := by decide +kernel
theorem dX10_mayMove_115 : decode cX10_mayMove 115 = .ok (.iconst 0, 1) := by decide +kernel
theorem dX10_mayMove_116 : decode cX10_mayMove 116 = .ok (.aaload, 1) := by decide +kernel
theorem dX10_mayMove_117 : decode cX10_mayMove 117 = .ok (.iload_n 3, 1) := by decide +kernel
theorem dX10_mayMove_118 : decode cX10_mayMove 118 = .ok (.iaload, 1) := by decide +kernel
theorem dX10_mayMove_119 : decode cX10_mayMove 119 = .ok (.aload_n 0, 1) := by decide +kernel
theorem dX10_mayMove_120 : decode cX10_mayMove 120 = .ok (.getfield 19, 3) := by decide +kernel
theorem dX10_mayMove_123 : decode cX10_mayMove 123 = .ok (.iconst 0, 1) := by decide +kernel
theorem dX10_mayMove_124 : decode cX10_mayMove 124 = .ok (.aaload, 1) := by decide +kernel
theorem dX10_mayMove_125 : decode cX10_mayMove 125 = .ok (.aload_n 0, 1) := by decide +kernel
theorem dX10_mayMove_126 : decode cX10_mayMove 126 = .ok (.getfield 86, 3) := by decide +kernel
theorem dX10_mayMove_129 : decode cX10_mayMove 129 = .ok (.aload_n 0, 1) := by decide +kernel
theorem dX10_mayMove_130 : decode cX10_mayMove 130 = .ok (.getfield 293, 3) := by decide +kernel
theorem dX10_mayMove_133 : decode cX10_mayMove 133 = .ok (.iconst 1, 1) := by decide +kernel
theorem dX10_mayMove_134 : decode cX10_mayMove 134 = .ok (.isub, 1) := by decide +kernel
theorem dX10_mayMove_135 : decode cX10_mayMove 135 = .ok (.iaload, 1) := by decide +kernel
theorem dX10_mayMove_136 : decode cX10_mayMove 136 = .ok (.iaload, 1) := by decide +kernel
theorem dX10_mayMove_137 : decode cX10_mayMove 137 = .ok (.if_icmp .le 19, 3) := by decide +kernel
theorem dX10_mayMove_140 : decode cX10_mayMove 140 = .ok (.aload_n 0, 1) := by decide +kernel
theorem dX10_mayMove_141 : decode cX10_mayMove 141 = .ok (.getfield 271, 3) := by decide +kernel
theorem dX10_mayMove_144 : decode cX10_mayMove 144 = .ok (.iconst (-1), 1) := by decide +kernel
theorem dX10_mayMove_145 : decode cX10_mayMove 145 = .ok (.if_icmp .eq 13, 3) := by decide +kernel
theorem dX10_mayMove_148 : decode cX10_mayMove 148 = .ok (.aload_n 0, 1) := by decide +kernel
theorem dX10_mayMove_149 : decode cX10_mayMove 149 = .ok (.getfield 271, 3) := by decide +kernel
theorem dX10_mayMove_152 : decode cX10_mayMove 152 = .ok (.iload_n 2, 1) := by decide +kernel
theorem dX10_mayMove_153 : decode cX10_mayMove 153 = .ok (.if_icmp .eq 5, 3) := by decide +kernel
theorem dX10_mayMove_156 : decode cX10_mayMove 156 = .ok (.iconst 0, 1) := by decide +kernel
theorem dX10_mayMove_157 : decode cX10_mayMove 157 = .ok (.ireturn, 1) := by decide +kernel
theorem dX10_mayMove_158 : decode cX10_mayMove 158 = .ok (.iload_n 3, 1) := by decide +kernel
theorem dX10_mayMove_159 : decode cX10_mayMove 159 = .ok (.tableswitch 119 0 5 #[37, 61, 83, 108, 103, 108], 37) := by decide +kernel
theorem dX10_mayMove_196 : decode cX10_mayMove 196 = .ok (.aload_n 0, 1) := by decide +kernel
theorem dX10_mayMove_197 : decode cX10_mayMove 197 = .ok (.getfield 296, 3) := by decide +kernel
theorem dX10_mayMove_200 : decode cX10_mayMove 200 = .ok (.ifCond .ne 18, 3) := by decide +kernel
theorem dX10_mayMove_203 : decode cX10_mayMove 203 = .ok (.iload 4, 2) := by decide +kernel
theorem dX10_mayMove_205 : decode cX10_mayMove 205 = .ok (.iconst 1, 1) := by decide +kernel
theorem dX10_mayMove_206 : decode cX10_mayMove 206 = .ok (.bipush 20, 2) := by decide +kernel
theorem dX10_mayMove_208 : decode cX10_mayMove 208 = .ok (.invokestatic 184, 3) := by decide +kernel
theorem dX10_mayMove_211 : decode cX10_mayMove 211 = .ok (.ifCond .eq 7, 3) := by decide +kernel
theorem dX10_mayMove_214 : decode cX10_mayMove 214 = .ok (.iconst 1, 1) := by decide +kernel
theorem dX10_mayMove_215 : decode cX10_mayMove 215 = .ok (.goto 4, 3) := by decide +kernel
theorem dX10_mayMove_218 : decode cX10_mayMove 218 = .ok (.iconst 0, 1) := by decide +kernel
theorem dX10_mayMove_219 : decode cX10_mayMove 219 = .ok (.ireturn, 1) := by decide +kernel
theorem dX10_mayMove_220 : decode cX10_mayMove 220 = .ok (.aload_n 0, 1) := by decide +kernel
theorem dX10_mayMove_221 : decode cX10_mayMove 221 = .ok (.getfield 296, 3) := by decide +kernel
theorem dX10_mayMove_224 : decode cX10_mayMove 224 = .ok (.ifCond .eq 16, 3) := by decide +kernel
theorem dX10_mayMove_227 : decode cX10_mayMove 227 = .ok (.aload_n 0, 1) := by decide +kernel
theorem dX10_mayMove_228 : decode cX10_mayMove 228 = .ok (.iload 4, 2) := by decide +kernel
theorem dX10_mayMove_230 : decode cX10_mayMove 230 = .ok (.invokevirtual 330, 3) := by decide +kernel
theorem dX10_mayMove_233 : decode cX10_mayMove 233 = .ok (.ifCond .eq 7, 3) := by decide +kernel
theorem dX10_mayMove_236 : decode cX10_mayMove 236 = .ok (.iconst 1, 1) := by decide +kernel
theorem dX10_mayMove_237 : decode cX10_mayMove 237 = .ok (.goto 4, 3) := by decide +kernel
theorem dX10_mayMove_240 : decode cX10_mayMove 240 = .ok (.iconst 0, 1) := by decide +kernel
theorem dX10_mayMove_241 : decode cX10_mayMove 241 = .ok (.ireturn, 1) := by decide +kernel
theorem dX10_mayMove_242 : decode cX10_mayMove 242 = .ok (.aload_n 0, 1) := by decide +kernel
theorem dX10_mayMove_243 : decode cX10_mayMove 243 = .ok (.getfield 296, 3) := by decide +kernel
theorem dX10_mayMove_246 : decode cX10_mayMove 246 = .ok (.ifCond .eq 14, 3) := by decide +kernel
theorem dX10_mayMove_249 : decode cX10_mayMove 249 = .ok (.aload_n 0, 1) := by decide +kernel
theorem dX10_mayMove_250 : decode cX10_mayMove 250 = .ok (.getfield 293, 3) := by decide +kernel
theorem dX10_mayMove_253 : decode cX10_mayMove 253 = .ok (.ifCond .le 7, 3) := by decide +kernel
theorem dX10_mayMove_256 : decode cX10_mayMove 256 = .ok (.iconst 1, 1) := by decide +kernel
theorem dX10_mayMove_257 : decode cX10_mayMove 257 = .ok (.goto 4, 3) := by decide +kernel
theorem dX10_mayMove_260 : decode cX10_mayMove 260 = .ok (.iconst 0, 1) := by decide +kernel
theorem dX10_mayMove_261 : decode cX10_mayMove 261 = .ok (.ireturn, 1) := by decide +kernel
theorem dX10_mayMove_262 : decode cX10_mayMove 262 = .ok (.aload_n 0, 1) := by decide +kernel
theorem dX10_mayMove_263 : decode cX10_mayMove 263 = .ok (.getfield 296, 3) := by decide +kernel
theorem dX10_mayMove_266 : decode cX10_mayMove 266 = .ok (.ireturn, 1) := by decide +kernel
theorem dX10_mayMove_267 : decode cX10_mayMove 267 = .ok (.iload 4, 2) := by decide +kernel
theorem dX10_mayMove_269 : decode cX10_mayMove 269 = .ok (.ifCond .le 7, 3) := by decide +kernel
theorem dX10_mayMove_272 : decode cX10_mayMove 272 = .ok (.iconst 1, 1) := by decide +kernel
theorem dX10_mayMove_273 : decode cX10_mayMove 273 = .ok (.goto 4, 3) := by decide +kernel
theorem dX10_mayMove_276 : decode cX10_mayMove 276 = .ok (.iconst 0, 1) := by decide +kernel
theorem dX10_mayMove_277 : decode cX10_mayMove 277 = .ok (.ireturn, 1) := by decide +kernel
theorem dX10_mayMove_278 : decode cX10_mayMove 278 = .ok (.iconst 1, 1) := by decide +kernel
theorem dX10_mayMove_279 : decode cX10_mayMove 279 = .ok (.ireturn, 1) := by decide +kernel
theorem dX10_placeOf_0 : decode cX10_placeOf 0 = .ok (.iconst 0, 1) := by decide +kernel
theorem dX10_placeOf_1 : decode cX10_placeOf 1 = .ok (.istore_n 2, 1) := by decide +kernel
theorem dX10_placeOf_2 : decode cX10_placeOf 2 = .ok (.aload_n 0, 1) := by decide +kernel
theorem dX10_placeOf_3 : decode cX10_placeOf 3 = .ok (.getfield 296, 3) := by decide +kernel
theorem dX10_placeOf_6 : decode cX10_placeOf 6 = .ok (.ifCond .eq 29, 3) := by decide +kernel
theorem dX10_placeOf_9 : decode cX10_placeOf 9 = .ok (.iload_n 2, 1) := by decide +kernel
theorem dX10_placeOf_10 : decode cX10_placeOf 10 = .ok (.aload_n 0, 1) := by decide +kernel
theorem dX10_placeOf_11 : decode cX10_placeOf 11 = .ok (.getfield 299, 3) := by decide +kernel
theorem dX10_placeOf_14 : decode cX10_placeOf 14 = .ok (.if_icmp .ge 21, 3) := by decide +kernel
theorem dX10_placeOf_17 : decode cX10_placeOf 17 = .ok (.aload_n 0, 1) := by decide +kernel
theorem dX10_placeOf_18 : decode cX10_placeOf 18 = .ok (.getfield 110, 3) := by decide +kernel
theorem dX10_placeOf_21 : decode cX10_placeOf 21 = .ok (.iload_n 2, 1) := by decide +kernel
theorem dX10_placeOf_22 : decode cX10_placeOf 22 = .ok (.iaload, 1) := by decide +kernel
theorem dX10_placeOf_23 : decode cX10_placeOf 23 = .ok (.iload_n 1, 1) := by decide +kernel
theorem dX10_placeOf_24 : decode cX10_placeOf 24 = .ok (.if_icmp .ne 5, 3) := by decide +kernel
theorem dX10_placeOf_27 : decode cX10_placeOf 27 = .ok (.iload_n 2, 1) := by decide +kernel
theorem dX10_placeOf_28 : decode cX10_placeOf 28 = .ok (.ireturn, 1) := by decide +kernel
theorem dX10_placeOf_29 : decode cX10_placeOf 29 = .ok (.iinc 2 1, 3) := by decide +kernel
theorem dX10_placeOf_32 : decode cX10_placeOf 32 = .ok (.goto (-30), 3) := by decide +kernel
theorem dX10_placeOf_35 : decode cX10_placeOf 35 = .ok (.iconst (-1), 1) := by decide +kernel
theorem dX10_placeOf_36 : decode cX10_placeOf 36 = .ok (.ireturn, 1) := by decide +kernel
theorem dX10_mayAmend_0 : decode cX10_mayAmend 0 = .ok (.aload_n 0, 1) := by decide +kernel
theorem dX10_mayAmend_1 : decode cX10_mayAmend 1 = .ok (.iload_n 1, 1) := by decide +kernel
theorem dX10_mayAmend_2 : decode cX10_mayAmend 2 = .ok (.iconst 4, 1) := by decide +kernel
theorem dX10_mayAmend_3 : decode cX10_mayAmend 3 = .ok (.idiv, 1) := by decide +kernel
theorem dX10_mayAmend_4 : decode cX10_mayAmend 4 = .ok (.invokevirtual 333, 3) := by decide +kernel
theorem dX10_mayAmend_7 : decode cX10_mayAmend 7 = .ok (.istore_n 2, 1) := by decide +kernel
theorem dX10_mayAmend_8 : decode cX10_mayAmend 8 = .ok (.iload_n 2, 1) := by decide +kernel
theorem dX10_mayAmend_9 : decode cX10_mayAmend 9 = .ok (.iconst (-1), 1) := by decide +kernel
theorem dX10_mayAmend_10 : decode cX10_mayAmend 10 = .ok (.if_icmp .ne 5, 3) := by decide +kernel
theorem dX10_mayAmend_13 : decode cX10_mayAmend 13 = .ok (.iconst 0, 1) := by decide +kernel
theorem dX10_mayAmend_14 : decode cX10_mayAmend 14 = .ok (.ireturn, 1) := by decide +kernel
theorem dX10_mayAmend_15 : decode cX10_mayAmend 15 = .ok (.iload_n 1, 1) := by decide +kernel
theorem dX10_mayAmend_16 : decode cX10_mayAmend 16 = .ok (.iconst 4, 1) := by decide +kernel
theorem dX10_mayAmend_17 : decode cX10_mayAmend 17 = .ok (.irem, 1) := by decide +kernel
theorem dX10_mayAmend_18 : decode cX10_mayAmend 18 = .ok (.iconst 3, 1) := by decide +kernel
theorem dX10_mayAmend_19 : decode cX10_mayAmend 19 = .ok (.if_icmp .ne 21, 3) := by decide +kernel
theorem dX10_mayAmend_22 : decode cX10_mayAmend 22 = .ok (.iload_n 2, 1) := by decide +kernel
theorem dX10_mayAmend_23 : decode cX10_mayAmend 23 = .ok (.iconst 1, 1) := by decide +kernel
theorem dX10_mayAmend_24 : decode cX10_mayAmend 24 = .ok (.iadd, 1) := by decide +kernel
theorem dX10_mayAmend_25 : decode cX10_mayAmend 25 = .ok (.aload_n 0, 1) := by decide +kernel
theorem dX10_mayAmend_26 : decode cX10_mayAmend 26 = .ok (.getfield 299, 3) := by decide +kernel
theorem dX10_mayAmend_29 : decode cX10_mayAmend 29 = .ok (.if_icmp .ge 7, 3) := by decide +kernel
theorem dX10_mayAmend_32 : decode cX10_mayAmend 32 = .ok (.iconst 1, 1) := by decide +kernel
theorem dX10_mayAmend_33 : decode cX10_mayAmend 33 = .ok (.goto 27, 3) := by decide +kernel
theorem dX10_mayAmend_36 : decode cX10_mayAmend 36 = .ok (.iconst 0, 1) := by decide +kernel
theorem dX10_mayAmend_37 : decode cX10_mayAmend 37 = .ok (.goto 23, 3) := by decide +kernel
theorem dX10_mayAmend_40 : decode cX10_mayAmend 40 = .ok (.iload_n 1, 1) := by decide +kernel
theorem dX10_mayAmend_41 : decode cX10_mayAmend 41 = .ok (.iconst 4, 1) := by decide +kernel
theorem dX10_mayAmend_42 : decode cX10_mayAmend 42 = .ok (.irem, 1) := by decide +kernel
theorem dX10_mayAmend_43 : decode cX10_mayAmend 43 = .ok (.ifCond .ne 12, 3) := by decide +kernel
theorem dX10_mayAmend_46 : decode cX10_mayAmend 46 = .ok (.aload_n 0, 1) := by decide +kernel
theorem dX10_mayAmend_47 : decode cX10_mayAmend 47 = .ok (.getfield 299, 3) := by decide +kernel
theorem dX10_mayAmend_50 : decode cX10_mayAmend 50 = .ok (.bipush 40, 2) := by decide +kernel
theorem dX10_mayAmend_52 : decode cX10_mayAmend 52 = .ok (.if_icmp .ge 7, 3) := by decide +kernel
theorem dX10_mayAmend_55 : decode cX10_mayAmend 55 = .ok (.iconst 1, 1) := by decide +kernel
theorem dX10_mayAmend_56 : decode cX10_mayAmend 56 = .ok (.goto 4, 3) := by decide +kernel
theorem dX10_mayAmend_59 : decode cX10_mayAmend 59 = .ok (.iconst 0, 1) := by decide +kernel
theorem dX10_mayAmend_60 : decode cX10_mayAmend 60 = .ok (.ireturn, 1) := by decide +kernel
theorem dX10_does_0 : decode cX10_does 0 = .ok (.aload_n 0, 1) := by decide +kernel
theorem dX10_does_1 : decode cX10_does 1 = .ok (.getfield 52, 3) := by decide +kernel
theorem dX10_does_4 : decode cX10_does 4 = .ok (.iload_n 1, 1) := by decide +kernel
theorem dX10_does_5 : decode cX10_does 5 = .ok (.iaload, 1) := by decide +kernel
theorem dX10_does_6 : decode cX10_does 6 = .ok (.istore_n 2, 1) := by decide +kernel
theorem dX10_does_7 : decode cX10_does 7 = .ok (.aload_n 0, 1) := by decide +kernel
theorem dX10_does_8 : decode cX10_does 8 = .ok (.getfield 49, 3) := by decide +kernel
theorem dX10_does_11 : decode cX10_does 11 = .ok (.iload_n 1, 1) := by decide +kernel
theorem dX10_does_12 : decode cX10_does 12 = .ok (.iaload, 1) := by decide +kernel
theorem dX10_does_13 : decode cX10_does 13 = .ok (.tableswitch 332 0 8 #[51, 61, 88, 111, 188, 272, 285, 293, 308], 51) := by decide +kernel
theorem dX10_does_64 : decode cX10_does 64 = .ok (.aload_n 0, 1) := by decide +kernel
theorem dX10_does_65 : decode cX10_does 65 = .ok (.getfield 77, 3) := by decide +kernel
theorem dX10_does_68 : decode cX10_does 68 = .ok (.iload_n 2, 1) := by decide +kernel
theorem dX10_does_69 : decode cX10_does 69 = .ok (.iconst 1, 1) := by decide +kernel
theorem dX10_does_70 : decode cX10_does 70 = .ok (.bastore, 1) := by decide +kernel
theorem dX10_does_71 : decode cX10_does 71 = .ok (.goto 294, 3) := by decide +kernel
theorem dX10_does_74 : decode cX10_does 74 = .ok (.aload_n 0, 1) := by decide +kernel
theorem dX10_does_75 : decode cX10_does 75 = .ok (.getfield 77, 3) := by decide +kernel
theorem dX10_does_78 : decode cX10_does 78 = .ok (.iload_n 2, 1) := by decide +kernel
theorem dX10_does_79 : decode cX10_does 79 = .ok (.iconst 0, 1) := by decide +kernel
theorem dX10_does_80 : decode cX10_does 80 = .ok (.bastore, 1) := by decide +kernel
theorem dX10_does_81 : decode cX10_does 81 = .ok (.aload_n 0, 1) := by decide +kernel
theorem dX10_does_82 : decode cX10_does 82 = .ok (.iload_n 2, 1) := by decide +kernel
theorem dX10_does_83 : decode cX10_does 83 = .ok (.invokevirtual 336, 3) := by decide +kernel
theorem dX10_does_86 : decode cX10_does 86 = .ok (.aload_n 0, 1) := by decide +kernel
theorem dX10_does_87 : decode cX10_does 87 = .ok (.getfield 271, 3) := by decide +kernel
theorem dX10_does_90 : decode cX10_does 90 = .ok (.iload_n 2, 1) := by decide +kernel
theorem dX10_does_91 : decode cX10_does 91 = .ok (.if_icmp .ne 274, 3) := by decide +kernel
theorem dX10_does_94 : decode cX10_does 94 = .ok (.aload_n 0, 1) := by decide +kernel
theorem dX10_does_95 : decode cX10_does 95 = .ok (.invokevirtual 339, 3) := by decide +kernel
theorem dX10_does_98 : decode cX10_does 98 = .ok (.goto 267, 3) := by decide +kernel
theorem dX10_does_101 : decode cX10_does 101 = .ok (.aload_n 0, 1) := by decide +kernel
theorem dX10_does_102 : decode cX10_does 102 = .ok (.getfield 80, 3) := by decide +kernel
theorem dX10_does_105 : decode cX10_does 105 = .ok (.aload_n 0, 1) := by decide +kernel
theorem dX10_does_106 : decode cX10_does 106 = .ok (.getfield 268, 3) := by decide +kernel
theorem dX10_does_109 : decode cX10_does 109 = .ok (.iload_n 2, 1) := by decide +kernel
theorem dX10_does_110 : decode cX10_does 110 = .ok (.iastore, 1) := by decide +kernel
theorem dX10_does_111 : decode cX10_does 111 = .ok (.aload_n 0, 1) := by decide +kernel
theorem dX10_does_112 : decode cX10_does 112 = .ok (.dup, 1) := by decide +kernel
theorem dX10_does_113 : decode cX10_does 113 = .ok (.getfield 268, 3) := by decide +kernel
theorem dX10_does_116 : decode cX10_does 116 = .ok (.iconst 1, 1) := by decide +kernel
theorem dX10_does_117 : decode cX10_does 117 = .ok (.iadd, 1) := by decide +kernel
theorem dX10_does_118 : decode cX10_does 118 = .ok (.putfield 268, 3) := by decide +kernel
theorem dX10_does_121 : decode cX10_does 121 = .ok (.goto 244, 3) := by decide +kernel
theorem dX10_does_124 : decode cX10_does 124 = .ok (.aload_n 0, 1) := by decide +kernel
theorem dX10_does_125 : decode cX10_does 125 = .ok (.getfield 80, 3) := by decide +kernel
theorem dX10_does_128 : decode cX10_does 128 = .ok (.aload_n 0, 1) := by decide +kernel
theorem dX10_does_129 : decode cX10_does 129 = .ok (.aload_n 0, 1) := by decide +kernel
theorem dX10_does_130 : decode cX10_does 130 = .ok (.getfield 80, 3) := by decide +kernel
theorem dX10_does_133 : decode cX10_does 133 = .ok (.aload_n 0, 1) := by decide +kernel
theorem dX10_does_134 : decode cX10_does 134 = .ok (.getfield 268, 3) := by decide +kernel
theorem dX10_does_137 : decode cX10_does 137 = .ok (.aload_n 0, 1) := by decide +kernel
theorem dX10_does_138 : decode cX10_does 138 = .ok (.getfield 83, 3) := by decide +kernel
theorem dX10_does_141 : decode cX10_does 141 = .ok (.invokevirtual 342, 3) := by decide +kernel
theorem dX10_does_144 : decode cX10_does 144 = .ok (.iaload, 1) := by decide +kernel
theorem dX10_does_145 : decode cX10_does 145 = .ok (.istore_n 3, 1) := by decide +kernel
theorem dX10_does_146 : decode cX10_does 146 = .ok (.aload_n 0, 1) := by decide +kernel
theorem dX10_does_147 : decode cX10_does 147 = .ok (.iload_n 3, 1) := by decide +kernel
theorem dX10_does_148 : decode cX10_does 148 = .ok (.invokevirtual 336, 3) := by decide +kernel
theorem dX10_does_151 : decode cX10_does 151 = .ok (.aload_n 0, 1) := by decide +kernel
theorem dX10_does_152 : decode cX10_does 152 = .ok (.getfield 83, 3) := by decide +kernel
theorem dX10_does_155 : decode cX10_does 155 = .ok (.iload_n 3, 1) := by decide +kernel
theorem dX10_does_156 : decode cX10_does 156 = .ok (.dup2, 1) := by decide +kernel
theorem dX10_does_157 : decode cX10_does 157 = .ok (.iaload, 1) := by decide +kernel
theorem dX10_does_158 : decode cX10_does 158 = .ok (.iconst 1, 1) := by decide +kernel
theorem dX10_does_159 : decode cX10_does 159 = .ok (.iadd, 1) := by decide +kernel
theorem dX10_does_160 : decode cX10_does 160 = .ok (.iastore, 1) := by decide +kernel
theorem dX10_does_161 : decode cX10_does 161 = .ok (.aload_n 0, 1) := by decide +kernel
theorem dX10_does_162 : decode cX10_does 162 = .ok (.iload_n 3, 1) := by decide +kernel
theorem dX10_does_163 : decode cX10_does 163 = .ok (.putfield 271, 3) := by decide +kernel
theorem dX10_does_166 : decode cX10_does 166 = .ok (.aload_n 0, 1) := by decide +kernel
theorem dX10_does_167 : decode cX10_does 167 = .ok (.aload_n 0, 1) := by decide +kernel
theorem dX10_does_168 : decode cX10_does 168 = .ok (.getfield 277, 3) := by decide +kernel
theorem dX10_does_171 : decode cX10_does 171 = .ok (.putfield 274, 3) := by decide +kernel
theorem dX10_does_174 : decode cX10_does 174 = .ok (.aload_n 0, 1) := by decide +kernel
theorem dX10_does_175 : decode cX10_does 175 = .ok (.iconst 0, 1) := by decide +kernel
theorem dX10_does_176 : decode cX10_does 176 = .ok (.putfield 286, 3) := by decide +kernel
theorem dX10_does_179 : decode cX10_does 179 = .ok (.aload_n 0, 1) := by decide +kernel
theorem dX10_does_180 : decode cX10_does 180 = .ok (.getfield 293, 3) := by decide +kernel
theorem dX10_does_183 : decode cX10_does 183 = .ok (.ifCond .le 182, 3) := by decide +kernel
theorem dX10_does_186 : decode cX10_does 186 = .ok (.aload_n 0, 1) := by decide +kernel
theorem dX10_does_187 : decode cX10_does 187 = .ok (.getfield 104, 3) := by decide +kernel
theorem dX10_does_190 : decode cX10_does 190 = .ok (.aload_n 0, 1) := by decide +kernel
theorem dX10_does_191 : decode cX10_does 191 = .ok (.getfield 293, 3) := by decide +kernel
theorem dX10_does_194 : decode cX10_does 194 = .ok (.iconst 1, 1) := by decide +kernel
theorem dX10_does_195 : decode cX10_does 195 = .ok (.isub, 1) := by decide +kernel
theorem dX10_does_196 : decode cX10_does 196 = .ok (.iconst 1, 1) := by decide +kernel
theorem dX10_does_197 : decode cX10_does 197 = .ok (.bastore, 1) := by decide +kernel
theorem dX10_does_198 : decode cX10_does 198 = .ok (.goto 167, 3) := by decide +kernel
theorem dX10_does_201 : decode cX10_does 201 = .ok (.aload_n 0, 1) := by decide +kernel
theorem dX10_does_202 : decode cX10_does 202 = .ok (.dup, 1) := by decide +kernel
theorem dX10_does_203 : decode cX10_does 203 = .ok (.getfield 280, 3) := by decide +kernel
theorem dX10_does_206 : decode cX10_does 206 = .ok (.aload_n 0, 1) := by decide +kernel
theorem dX10_does_207 : decode cX10_does 207 = .ok (.getfield 58, 3) := by decide +kernel
theorem dX10_does_210 : decode cX10_does 210 = .ok (.iload_n 1, 1) := by decide +kernel
theorem dX10_does_211 : decode cX10_does 211 = .ok (.iaload, 1) := by decide +kernel
theorem dX10_does_212 : decode cX10_does 212 = .ok (.iadd, 1) := by decide +kernel
theorem dX10_does_213 : decode cX10_does 213 = .ok (.putfield 280, 3) := by decide +kernel
theorem dX10_does_216 : decode cX10_does 216 = .ok (.aload_n 0, 1) := by decide +kernel
theorem dX10_does_217 : decode cX10_does 217 = .ok (.getfield 271, 3) := by decide +kernel
theorem dX10_does_220 : decode cX10_does 220 = .ok (.iconst (-1), 1) := by decide +kernel
theorem dX10_does_221 : decode cX10_does 221 = .ok (.if_icmp .eq 29, 3) := by decide +kernel
theorem dX10_does_224 : decode cX10_does 224 = .ok (.aload_n 0, 1) := by decide +kernel
theorem dX10_does_225 : decode cX10_does 225 = .ok (.dup, 1) := by decide +kernel
theorem dX10_does_226 : decode cX10_does 226 = .ok (.getfield 274, 3) := by decide +kernel
theorem dX10_does_229 : decode cX10_does 229 = .ok (.aload_n 0, 1) := by decide +kernel
theorem dX10_does_230 : decode cX10_does 230 = .ok (.getfield 58, 3) := by decide +kernel
theorem dX10_does_233 : decode cX10_does 233 = .ok (.iload_n 1, 1) := by decide +kernel
theorem dX10_does_234 : decode cX10_does 234 = .ok (.iaload, 1) := by decide +kernel
theorem dX10_does_235 : decode cX10_does 235 = .ok (.isub, 1) := by decide +kernel
theorem dX10_does_236 : decode cX10_does 236 = .ok (.putfield 274, 3) := by decide +kernel
theorem dX10_does_239 : decode cX10_does 239 = .ok (.aload_n 0, 1) := by decide +kernel
theorem dX10_does_240 : decode cX10_does 240 = .ok (.getfield 274, 3) := by decide +kernel
theorem dX10_does_243 : decode cX10_does 243 = .ok (.ifCond .gt 7, 3) := by decide +kernel
theorem dX10_does_246 : decode cX10_does 246 = .ok (.aload_n 0, 1) := by decide +kernel
theorem dX10_does_247 : decode cX10_does 247 = .ok (.invokevirtual 339, 3) := by decide +kernel
theorem dX10_does_250 : decode cX10_does 250 = .ok (.aload_n 0, 1) := by decide +kernel
theorem dX10_does_251 : decode cX10_does 251 = .ok (.aload_n 0, 1) := by decide +kernel
theorem dX10_does_252 : decode cX10_does 252 = .ok (.getfield 283, 3) := by decide +kernel
theorem dX10_does_255 : decode cX10_does 255 = .ok (.aload_n 0, 1) := by decide +kernel
theorem dX10_does_256 : decode cX10_does 256 = .ok (.getfield 58, 3) := by decide +kernel
theorem dX10_does_259 : decode cX10_does 259 = .ok (.iload_n 1, 1) := by decide +kernel
theorem dX10_does_260 : decode cX10_does 260 = .ok (.iaload, 1) := by decide +kernel
theorem dX10_does_261 : decode cX10_does 261 = .ok (.if_icmp .le 17, 3) := by decide +kernel
theorem dX10_does_264 : decode cX10_does 264 = .ok (.aload_n 0, 1) := by decide +kernel
theorem dX10_does_265 : decode cX10_does 265 = .ok (.getfield 283, 3) := by decide +kernel
theorem dX10_does_268 : decode cX10_does 268 = .ok (.aload_n 0, 1) := by decide +kernel
theorem dX10_does_269 : decode cX10_does 269 = .ok (.getfield 58, 3) := by decide +kernel
theorem dX10_does_272 : decode cX10_does 272 = .ok (.iload_n 1, 1) := by decide +kernel
theorem dX10_does_273 : decode cX10_does 273 = .ok (.iaload, 1) := by decide +kernel
theorem dX10_does_274 : decode cX10_does 274 = .ok (.isub, 1) := by decide +kernel
theorem dX10_does_275 : decode cX10_does 275 = .ok (.goto 4, 3) := by decide +kernel
theorem dX10_does_278 : decode cX10_does 278 = .ok (.iconst 0, 1) := by decide +kernel
theorem dX10_does_279 : decode cX10_does 279 = .ok (.putfield 283, 3) := by decide +kernel
theorem dX10_does_282 : decode cX10_does 282 = .ok (.goto 83, 3) := by decide +kernel
theorem dX10_does_285 : decode cX10_does 285 = .ok (.aload_n 0, 1) := by decide +kernel
theorem dX10_does_286 : decode cX10_does 286 = .ok (.iload_n 2, 1) := by decide +kernel
theorem dX10_does_287 : decode cX10_does 287 = .ok (.putfield 271, 3) := by decide +kernel
theorem dX10_does_290 : decode cX10_does 290 = .ok (.aload_n 0, 1) := by decide +kernel
theorem dX10_does_291 : decode cX10_does 291 = .ok (.iconst 1, 1) := by decide +kernel
theorem dX10_does_292 : decode cX10_does 292 = .ok (.putfield 286, 3) := by decide +kernel
theorem dX10_does_295 : decode cX10_does 295 = .ok (.goto 70, 3) := by decide +kernel
theorem dX10_does_298 : decode cX10_does 298 = .ok (.aload_n 0, 1) := by decide +kernel
theorem dX10_does_299 : decode cX10_does 299 = .ok (.iload_n 1, 1) := by decide +kernel
theorem dX10_does_300 : decode cX10_does 300 = .ok (.invokevirtual 346, 3) := by decide +kernel
theorem dX10_does_303 : decode cX10_does 303 = .ok (.goto 62, 3) := by decide +kernel
theorem dX10_does_306 : decode cX10_does 306 = .ok (.aload_n 0, 1) := by decide +kernel
theorem dX10_does_307 : decode cX10_does 307 = .ok (.getfield 101, 3) := by decide +kernel
theorem dX10_does_310 : decode cX10_does 310 = .ok (.aload_n 0, 1) := by decide +kernel
theorem dX10_does_311 : decode cX10_does 311 = .ok (.getfield 293, 3) := by decide +kernel
theorem dX10_does_314 : decode cX10_does 314 = .ok (.iconst 1, 1) := by decide +kernel
theorem dX10_does_315 : decode cX10_does 315 = .ok (.isub, 1) := by decide +kernel
theorem dX10_does_316 : decode cX10_does 316 = .ok (.iconst 1, 1) := by decide +kernel
theorem dX10_does_317 : decode cX10_does 317 = .ok (.bastore, 1) := by decide +kernel
theorem dX10_does_318 : decode cX10_does 318 = .ok (.goto 47, 3) := by decide +kernel
theorem dX10_does_321 : decode cX10_does 321 = .ok (.aload_n 0, 1) := by decide +kernel
theorem dX10_does_322 : decode cX10_does 322 = .ok (.iload_n 1, 1) := by decide +kernel
theorem dX10_does_323 : decode cX10_does 323 = .ok (.aload_n 0, 1) := by decide +kernel
theorem dX10_does_324 : decode cX10_does 324 = .ok (.aload_n 0, 1) := by decide +kernel
theorem dX10_does_325 : decode cX10_does 325 = .ok (.getfield 58, 3) := by decide +kernel
theorem dX10_does_328 : decode cX10_does 328 = .ok (.iload_n 1, 1) := by decide +kernel
theorem dX10_does_329 : decode cX10_does 329 = .ok (.iaload, 1) := by decide +kernel
theorem dX10_does_330 : decode cX10_does 330 = .ok (.aload_n 0, 1) := by decide +kernel
theorem dX10_does_331 : decode cX10_does 331 = .ok (.getfield 61, 3) := by decide +kernel
theorem dX10_does_334 : decode cX10_does 334 = .ok (.iload_n 1, 1) := by decide +kernel
theorem dX10_does_335 : decode cX10_does 335 = .ok (.iaload, 1) := by decide +kernel
theorem dX10_does_336 : decode cX10_does 336 = .ok (.invokevirtual 349, 3) := by decide +kernel
theorem dX10_does_339 : decode cX10_does 339 = .ok (.invokevirtual 352, 3) := by decide +kernel
theorem dX10_does_342 : decode cX10_does 342 = .ok (.goto 23, 3) := by decide +kernel
theorem dX10_does_345 : decode cX10_does 345 = .ok (.aload_n 0, 1) := by decide +kernel
theorem dX10_does_346 : decode cX10_does 346 = .ok (.iload_n 1, 1) := by decide +kernel
theorem dX10_does_347 : decode cX10_does 347 = .ok (.aload_n 0, 1) := by decide +kernel
theorem dX10_does_348 : decode cX10_does 348 = .ok (.getfield 58, 3) := by decide +kernel
theorem dX10_does_351 : decode cX10_does 351 = .ok (.iload_n 1, 1) := by decide +kernel
theorem dX10_does_352 : decode cX10_does 352 = .ok (.iaload, 1) := by decide +kernel
theorem dX10_does_353 : decode cX10_does 353 = .ok (.iconst 1, 1) := by decide +kernel
theorem dX10_does_354 : decode cX10_does 354 = .ok (.if_icmp .ne 7, 3) := by decide +kernel
theorem dX10_does_357 : decode cX10_does 357 = .ok (.iconst 1, 1) := by decide +kernel
theorem dX10_does_358 : decode cX10_does 358 = .ok (.goto 4, 3) := by decide +kernel
theorem dX10_does_361 : decode cX10_does 361 = .ok (.iconst 0, 1) := by decide +kernel
theorem dX10_does_362 : decode cX10_does 362 = .ok (.invokevirtual 352, 3) := by decide +kernel
theorem dX10_does_365 : decode cX10_does 365 = .ok (.return_, 1) := by decide +kernel
theorem dX10_moves_0 : decode cX10_moves 0 = .ok (.aload_n 0, 1) := by decide +kernel
theorem dX10_moves_1 : decode cX10_moves 1 = .ok (.getfield 293, 3) := by decide +kernel
theorem dX10_moves_4 : decode cX10_moves 4 = .ok (.istore_n 2, 1) := by decide +kernel
theorem dX10_moves_5 : decode cX10_moves 5 = .ok (.aload_n 0, 1) := by decide +kernel
theorem dX10_moves_6 : decode cX10_moves 6 = .ok (.getfield 86, 3) := by decide +kernel
theorem dX10_moves_9 : decode cX10_moves 9 = .ok (.iload_n 2, 1) := by decide +kernel
theorem dX10_moves_10 : decode cX10_moves 10 = .ok (.aload_n 0, 1) := by decide +kernel
theorem dX10_moves_11 : decode cX10_moves 11 = .ok (.getfield 55, 3) := by decide +kernel
theorem dX10_moves_14 : decode cX10_moves 14 = .ok (.iload_n 1, 1) := by decide +kernel
theorem dX10_moves_15 : decode cX10_moves 15 = .ok (.iaload, 1) := by decide +kernel
theorem dX10_moves_16 : decode cX10_moves 16 = .ok (.iastore, 1) := by decide +kernel
theorem dX10_moves_17 : decode cX10_moves 17 = .ok (.aload_n 0, 1) := by decide +kernel
theorem dX10_moves_18 : decode cX10_moves 18 = .ok (.getfield 89, 3) := by decide +kernel
theorem dX10_moves_21 : decode cX10_moves 21 = .ok (.iload_n 2, 1) := by decide +kernel
theorem dX10_moves_22 : decode cX10_moves 22 = .ok (.aload_n 0, 1) := by decide +kernel
theorem dX10_moves_23 : decode cX10_moves 23 = .ok (.getfield 52, 3) := by decide +kernel
theorem dX10_moves_26 : decode cX10_moves 26 = .ok (.iload_n 1, 1) := by decide +kernel
theorem dX10_moves_27 : decode cX10_moves 27 = .ok (.iaload, 1) := by decide +kernel
theorem dX10_moves_28 : decode cX10_moves 28 = .ok (.iastore, 1) := by decide +kernel
theorem dX10_moves_29 : decode cX10_moves 29 = .ok (.aload_n 0, 1) := by decide +kernel
theorem dX10_moves_30 : decode cX10_moves 30 = .ok (.getfield 92, 3) := by decide +kernel
theorem dX10_moves_33 : decode cX10_moves 33 = .ok (.iload_n 2, 1) := by decide +kernel
theorem dX10_moves_34 : decode cX10_moves 34 = .ok (.aload_n 0, 1) := by decide +kernel
theorem dX10_moves_35 : decode cX10_moves 35 = .ok (.getfield 58, 3) := by decide +kernel
theorem dX10_moves_38 : decode cX10_moves 38 = .ok (.iload_n 1, 1) := by decide +kernel
theorem dX10_moves_39 : decode cX10_moves 39 = .ok (.iaload, 1) := by decide +kernel
theorem dX10_moves_40 : decode cX10_moves 40 = .ok (.iastore, 1) := by decide +kernel
theorem dX10_moves_41 : decode cX10_moves 41 = .ok (.aload_n 0, 1) := by decide +kernel
theorem dX10_moves_42 : decode cX10_moves 42 = .ok (.getfield 95, 3) := by decide +kernel
theorem dX10_moves_45 : decode cX10_moves 45 = .ok (.iload_n 2, 1) := by decide +kernel
theorem dX10_moves_46 : decode cX10_moves 46 = .ok (.aload_n 0, 1) := by decide +kernel
theorem dX10_moves_47 : decode cX10_moves 47 = .ok (.getfield 61, 3) := by decide +kernel
theorem dX10_moves_50 : decode cX10_moves 50 = .ok (.iload_n 1, 1) := by decide +kernel
theorem dX10_moves_51 : decode cX10_moves 51 = .ok (.iaload, 1) := by decide +kernel
theorem dX10_moves_52 : decode cX10_moves 52 = .ok (.iastore, 1) := by decide +kernel
theorem dX10_moves_53 : decode cX10_moves 53 = .ok (.aload_n 0, 1) := by decide +kernel
theorem dX10_moves_54 : decode cX10_moves 54 = .ok (.getfield 101, 3) := by decide +kernel
theorem dX10_moves_57 : decode cX10_moves 57 = .ok (.iload_n 2, 1) := by decide +kernel
theorem dX10_moves_58 : decode cX10_moves 58 = .ok (.aload_n 0, 1) := by decide +kernel
theorem dX10_moves_59 : decode cX10_moves 59 = .ok (.getfield 27, 3) := by decide +kernel
theorem dX10_moves_62 : decode cX10_moves 62 = .ok (.iconst 0, 1) := by decide +kernel
theorem dX10_moves_63 : decode cX10_moves 63 = .ok (.aaload, 1) := by decide +kernel
theorem dX10_moves_64 : decode cX10_moves 64 = .ok (.aload_n 0, 1) := by decide +kernel
theorem dX10_moves_65 : decode cX10_moves 65 = .ok (.getfield 55, 3) := by decide +kernel
theorem dX10_moves_68 : decode cX10_moves 68 = .ok (.iload_n 1, 1) := by decide +kernel
theorem dX10_moves_69 : decode cX10_moves 69 = .ok (.iaload, 1) := by decide +kernel
theorem dX10_moves_70 : decode cX10_moves 70 = .ok (.baload, 1) := by decide +kernel
theorem dX10_moves_71 : decode cX10_moves 71 = .ok (.ifCond .ne 7, 3) := by decide +kernel
theorem dX10_moves_74 : decode cX10_moves 74 = .ok (.iconst 1, 1) := by decide +kernel
theorem dX10_moves_75 : decode cX10_moves 75 = .ok (.goto 4, 3) := by decide +kernel
theorem dX10_moves_78 : decode cX10_moves 78 = .ok (.iconst 0, 1) := by decide +kernel
theorem dX10_moves_79 : decode cX10_moves 79 = .ok (.bastore, 1) := by decide +kernel
theorem dX10_moves_80 : decode cX10_moves 80 = .ok (.aload_n 0, 1) := by decide +kernel
theorem dX10_moves_81 : decode cX10_moves 81 = .ok (.getfield 104, 3) := by decide +kernel
theorem dX10_moves_84 : decode cX10_moves 84 = .ok (.iload_n 2, 1) := by decide +kernel
theorem dX10_moves_85 : decode cX10_moves 85 = .ok (.aload_n 0, 1) := by decide +kernel
theorem dX10_moves_86 : decode cX10_moves 86 = .ok (.getfield 30, 3) := by decide +kernel
theorem dX10_moves_89 : decode cX10_moves 89 = .ok (.iconst 0, 1) := by decide +kernel
theorem dX10_moves_90 : decode cX10_moves 90 = .ok (.aaload, 1) := by decide +kernel
theorem dX10_moves_91 : decode cX10_moves 91 = .ok (.aload_n 0, 1) := by decide +kernel
theorem dX10_moves_92 : decode cX10_moves 92 = .ok (.getfield 55, 3) := by decide +kernel
theorem dX10_moves_95 : decode cX10_moves 95 = .ok (.iload_n 1, 1) := by decide +kernel
theorem dX10_moves_96 : decode cX10_moves 96 = .ok (.iaload, 1) := by decide +kernel
theorem dX10_moves_97 : decode cX10_moves 97 = .ok (.baload, 1) := by decide +kernel
theorem dX10_moves_98 : decode cX10_moves 98 = .ok (.ifCond .ne 7, 3) := by decide +kernel
theorem dX10_moves_101 : decode cX10_moves 101 = .ok (.iconst 1, 1) := by decide +kernel
theorem dX10_moves_102 : decode cX10_moves 102 = .ok (.goto 4, 3) := by decide +kernel
theorem dX10_moves_105 : decode cX10_moves 105 = .ok (.iconst 0, 1) := by decide +kernel
theorem dX10_moves_106 : decode cX10_moves 106 = .ok (.bastore, 1) := by decide +kernel
theorem dX10_moves_107 : decode cX10_moves 107 = .ok (.aload_n 0, 1) := by decide +kernel
theorem dX10_moves_108 : decode cX10_moves 108 = .ok (.getfield 98, 3) := by decide +kernel
theorem dX10_moves_111 : decode cX10_moves 111 = .ok (.iload_n 2, 1) := by decide +kernel
theorem dX10_moves_112 : decode cX10_moves 112 = .ok (.aload_n 0, 1) := by decide +kernel
theorem dX10_moves_113 : decode cX10_moves 113 = .ok (.getfield 55, 3) := by decide +kernel
theorem dX10_moves_116 : decode cX10_moves 116 = .ok (.iload_n 1, 1) := by decide +kernel
theorem dX10_moves_117 : decode cX10_moves 117 = .ok (.iaload, 1) := by decide +kernel
theorem dX10_moves_118 : decode cX10_moves 118 = .ok (.bipush 7, 2) := by decide +kernel
theorem dX10_moves_120 : decode cX10_moves 120 = .ok (.if_icmp .ne 11, 3) := by decide +kernel
theorem dX10_moves_123 : decode cX10_moves 123 = .ok (.aload_n 0, 1) := by decide +kernel
theorem dX10_moves_124 : decode cX10_moves 124 = .ok (.iload_n 1, 1) := by decide +kernel
theorem dX10_moves_125 : decode cX10_moves 125 = .ok (.invokevirtual 326, 3) := by decide +kernel
theorem dX10_moves_128 : decode cX10_moves 128 = .ok (.goto 4, 3) := by decide +kernel
theorem dX10_moves_131 : decode cX10_moves 131 = .ok (.iconst (-1), 1) := by decide +kernel
theorem dX10_moves_132 : decode cX10_moves 132 = .ok (.iastore, 1) := by decide +kernel
theorem dX10_moves_133 : decode cX10_moves 133 = .ok (.aload_n 0, 1) := by decide +kernel
theorem dX10_moves_134 : decode cX10_moves 134 = .ok (.dup, 1) := by decide +kernel
theorem dX10_moves_135 : decode cX10_moves 135 = .ok (.getfield 293, 3) := by decide +kernel
theorem dX10_moves_138 : decode cX10_moves 138 = .ok (.iconst 1, 1) := by decide +kernel
theorem dX10_moves_139 : decode cX10_moves 139 = .ok (.iadd, 1) := by decide +kernel
theorem dX10_moves_140 : decode cX10_moves 140 = .ok (.putfield 293, 3) := by decide +kernel
theorem dX10_moves_143 : decode cX10_moves 143 = .ok (.return_, 1) := by decide +kernel
theorem dX10_many_0 : decode cX10_many 0 = .ok (.iconst 0, 1) := by decide +kernel
theorem dX10_many_1 : decode cX10_many 1 = .ok (.istore_n 1, 1) := by decide +kernel
theorem dX10_many_2 : decode cX10_many 2 = .ok (.iconst 0, 1) := by decide +kernel
theorem dX10_many_3 : decode cX10_many 3 = .ok (.istore_n 2, 1) := by decide +kernel
theorem dX10_many_4 : decode cX10_many 4 = .ok (.iload_n 2, 1) := by decide +kernel
theorem dX10_many_5 : decode cX10_many 5 = .ok (.bipush 24, 2) := by decide +kernel
theorem dX10_many_7 : decode cX10_many 7 = .ok (.if_icmp .ge 17, 3) := by decide +kernel
theorem dX10_many_10 : decode cX10_many 10 = .ok (.iload_n 1, 1) := by decide +kernel
theorem dX10_many_11 : decode cX10_many 11 = .ok (.iload_n 0, 1) := by decide +kernel
theorem dX10_many_12 : decode cX10_many 12 = .ok (.iload_n 2, 1) := by decide +kernel
theorem dX10_many_13 : decode cX10_many 13 = .ok (.ishr, 1) := by decide +kernel
theorem dX10_many_14 : decode cX10_many 14 = .ok (.iconst 1, 1) := by decide +kernel
theorem dX10_many_15 : decode cX10_many 15 = .ok (.iand, 1) := by decide +kernel
theorem dX10_many_16 : decode cX10_many 16 = .ok (.iadd, 1) := by decide +kernel
theorem dX10_many_17 : decode cX10_many 17 = .ok (.istore_n 1, 1) := by decide +kernel
theorem dX10_many_18 : decode cX10_many 18 = .ok (.iinc 2 1, 3) := by decide +kernel
theorem dX10_many_21 : decode cX10_many 21 = .ok (.goto (-17), 3) := by decide +kernel
theorem dX10_many_24 : decode cX10_many 24 = .ok (.iload_n 1, 1) := by decide +kernel
theorem dX10_many_25 : decode cX10_many 25 = .ok (.ireturn, 1) := by decide +kernel
theorem dX10_isPassing_0 : decode cX10_isPassing 0 = .ok (.iload_n 1, 1) := by decide +kernel
theorem dX10_isPassing_1 : decode cX10_isPassing 1 = .ok (.invokestatic 356, 3) := by decide +kernel
theorem dX10_isPassing_4 : decode cX10_isPassing 4 = .ok (.istore_n 3, 1) := by decide +kernel
theorem dX10_isPassing_5 : decode cX10_isPassing 5 = .ok (.iload_n 3, 1) := by decide +kernel
theorem dX10_isPassing_6 : decode cX10_isPassing 6 = .ok (.iload_n 2, 1) := by decide +kernel
theorem dX10_isPassing_7 : decode cX10_isPassing 7 = .ok (.invokestatic 356, 3) := by decide +kernel
theorem dX10_isPassing_10 : decode cX10_isPassing 10 = .ok (.iadd, 1) := by decide +kernel
theorem dX10_isPassing_11 : decode cX10_isPassing 11 = .ok (.istore 4, 2) := by decide +kernel
theorem dX10_isPassing_13 : decode cX10_isPassing 13 = .ok (.aload_n 0, 1) := by decide +kernel
theorem dX10_isPassing_14 : decode cX10_isPassing 14 = .ok (.getfield 22, 3) := by decide +kernel
theorem dX10_isPassing_17 : decode cX10_isPassing 17 = .ok (.iconst 0, 1) := by decide +kernel
theorem dX10_isPassing_18 : decode cX10_isPassing 18 = .ok (.aaload, 1) := by decide +kernel
end
section
theorem dX10_isPassing_19 : decode cX10_isPassing 19 = .ok (.aload_n 0, 1) := by decide +kernel
theorem dX10_isPassing_20 : decode cX10_isPassing 20 = .ok (.getfield 86, 3) := by decide +kernel
theorem dX10_isPassing_23 : decode cX10_isPassing 23 = .ok (.aload_n 0, 1) := by decide +kernel
theorem dX10_isPassing_24 : decode cX10_isPassing 24 = .ok (.getfield 293, 3) := by decide +kernel
theorem dX10_isPassing_27 : decode cX10_isPassing 27 = .ok (.iconst 1, 1) := by decide +kernel
theorem dX10_isPassing_28 : decode cX10_isPassing 28 = .ok (.isub, 1) := by decide +kernel
theorem dX10_isPassing_29 : decode cX10_isPassing 29 = .ok (.iaload, 1) := by decide +kernel
theorem dX10_isPassing_30 : decode cX10_isPassing 30 = .ok (.iaload, 1) := by decide +kernel
theorem dX10_isPassing_31 : decode cX10_isPassing 31 = .ok (.istore 5, 2) := by decide +kernel
theorem dX10_isPassing_33 : decode cX10_isPassing 33 = .ok (.iload 5, 2) := by decide +kernel
theorem dX10_isPassing_35 : decode cX10_isPassing 35 = .ok (.ifCond .ne 19, 3) := by decide +kernel
theorem dX10_isPassing_38 : decode cX10_isPassing 38 = .ok (.iconst 2, 1) := by decide +kernel
theorem dX10_isPassing_39 : decode cX10_isPassing 39 = .ok (.iload_n 3, 1) := by decide +kernel
theorem dX10_isPassing_40 : decode cX10_isPassing 40 = .ok (.imul, 1) := by decide +kernel
theorem dX10_isPassing_41 : decode cX10_isPassing 41 = .ok (.iload 4, 2) := by decide +kernel
theorem dX10_isPassing_43 : decode cX10_isPassing 43 = .ok (.if_icmp .le 7, 3) := by decide +kernel
theorem dX10_isPassing_46 : decode cX10_isPassing 46 = .ok (.iconst 1, 1) := by decide +kernel
theorem dX10_isPassing_47 : decode cX10_isPassing 47 = .ok (.goto 48, 3) := by decide +kernel
theorem dX10_isPassing_50 : decode cX10_isPassing 50 = .ok (.iconst 0, 1) := by decide +kernel
theorem dX10_isPassing_51 : decode cX10_isPassing 51 = .ok (.goto 44, 3) := by decide +kernel
theorem dX10_isPassing_54 : decode cX10_isPassing 54 = .ok (.iload 5, 2) := by decide +kernel
theorem dX10_isPassing_56 : decode cX10_isPassing 56 = .ok (.iconst 1, 1) := by decide +kernel
theorem dX10_isPassing_57 : decode cX10_isPassing 57 = .ok (.if_icmp .ne 25, 3) := by decide +kernel
theorem dX10_isPassing_60 : decode cX10_isPassing 60 = .ok (.iload_n 3, 1) := by decide +kernel
theorem dX10_isPassing_61 : decode cX10_isPassing 61 = .ok (.ifCond .le 17, 3) := by decide +kernel
theorem dX10_isPassing_64 : decode cX10_isPassing 64 = .ok (.iconst 3, 1) := by decide +kernel
theorem dX10_isPassing_65 : decode cX10_isPassing 65 = .ok (.iload_n 3, 1) := by decide +kernel
theorem dX10_isPassing_66 : decode cX10_isPassing 66 = .ok (.imul, 1) := by decide +kernel
theorem dX10_isPassing_67 : decode cX10_isPassing 67 = .ok (.iconst 2, 1) := by decide +kernel
theorem dX10_isPassing_68 : decode cX10_isPassing 68 = .ok (.iload 4, 2) := by decide +kernel
theorem dX10_isPassing_70 : decode cX10_isPassing 70 = .ok (.imul, 1) := by decide +kernel
theorem dX10_isPassing_71 : decode cX10_isPassing 71 = .ok (.if_icmp .lt 7, 3) := by decide +kernel
theorem dX10_isPassing_74 : decode cX10_isPassing 74 = .ok (.iconst 1, 1) := by decide +kernel
theorem dX10_isPassing_75 : decode cX10_isPassing 75 = .ok (.goto 20, 3) := by decide +kernel
theorem dX10_isPassing_78 : decode cX10_isPassing 78 = .ok (.iconst 0, 1) := by decide +kernel
theorem dX10_isPassing_79 : decode cX10_isPassing 79 = .ok (.goto 16, 3) := by decide +kernel
theorem dX10_isPassing_82 : decode cX10_isPassing 82 = .ok (.iconst 4, 1) := by decide +kernel
theorem dX10_isPassing_83 : decode cX10_isPassing 83 = .ok (.iload_n 3, 1) := by decide +kernel
theorem dX10_isPassing_84 : decode cX10_isPassing 84 = .ok (.imul, 1) := by decide +kernel
theorem dX10_isPassing_85 : decode cX10_isPassing 85 = .ok (.iload 4, 2) := by decide +kernel
theorem dX10_isPassing_87 : decode cX10_isPassing 87 = .ok (.if_icmp .le 7, 3) := by decide +kernel
theorem dX10_isPassing_90 : decode cX10_isPassing 90 = .ok (.iconst 1, 1) := by decide +kernel
theorem dX10_isPassing_91 : decode cX10_isPassing 91 = .ok (.goto 4, 3) := by decide +kernel
theorem dX10_isPassing_94 : decode cX10_isPassing 94 = .ok (.iconst 0, 1) := by decide +kernel
theorem dX10_isPassing_95 : decode cX10_isPassing 95 = .ok (.ireturn, 1) := by decide +kernel
theorem dX10_votes_0 : decode cX10_votes 0 = .ok (.aload_n 0, 1) := by decide +kernel
theorem dX10_votes_1 : decode cX10_votes 1 = .ok (.dup, 1) := by decide +kernel
theorem dX10_votes_2 : decode cX10_votes 2 = .ok (.getfield 293, 3) := by decide +kernel
theorem dX10_votes_5 : decode cX10_votes 5 = .ok (.iconst 1, 1) := by decide +kernel
theorem dX10_votes_6 : decode cX10_votes 6 = .ok (.isub, 1) := by decide +kernel
theorem dX10_votes_7 : decode cX10_votes 7 = .ok (.putfield 293, 3) := by decide +kernel
theorem dX10_votes_10 : decode cX10_votes 10 = .ok (.aload_n 0, 1) := by decide +kernel
theorem dX10_votes_11 : decode cX10_votes 11 = .ok (.getfield 293, 3) := by decide +kernel
theorem dX10_votes_14 : decode cX10_votes 14 = .ok (.istore_n 3, 1) := by decide +kernel
theorem dX10_votes_15 : decode cX10_votes 15 = .ok (.aload_n 0, 1) := by decide +kernel
theorem dX10_votes_16 : decode cX10_votes 16 = .ok (.getfield 67, 3) := by decide +kernel
theorem dX10_votes_19 : decode cX10_votes 19 = .ok (.aload_n 0, 1) := by decide +kernel
theorem dX10_votes_20 : decode cX10_votes 20 = .ok (.getfield 265, 3) := by decide +kernel
theorem dX10_votes_23 : decode cX10_votes 23 = .ok (.aaload, 1) := by decide +kernel
theorem dX10_votes_24 : decode cX10_votes 24 = .ok (.iload_n 1, 1) := by decide +kernel
theorem dX10_votes_25 : decode cX10_votes 25 = .ok (.iload_n 2, 1) := by decide +kernel
theorem dX10_votes_26 : decode cX10_votes 26 = .ok (.ifCond .eq 7, 3) := by decide +kernel
theorem dX10_votes_29 : decode cX10_votes 29 = .ok (.iconst 1, 1) := by decide +kernel
theorem dX10_votes_30 : decode cX10_votes 30 = .ok (.goto 4, 3) := by decide +kernel
theorem dX10_votes_33 : decode cX10_votes 33 = .ok (.iconst 0, 1) := by decide +kernel
theorem dX10_votes_34 : decode cX10_votes 34 = .ok (.iastore, 1) := by decide +kernel
theorem dX10_votes_35 : decode cX10_votes 35 = .ok (.aload_n 0, 1) := by decide +kernel
theorem dX10_votes_36 : decode cX10_votes 36 = .ok (.getfield 86, 3) := by decide +kernel
theorem dX10_votes_39 : decode cX10_votes 39 = .ok (.iload_n 3, 1) := by decide +kernel
theorem dX10_votes_40 : decode cX10_votes 40 = .ok (.iaload, 1) := by decide +kernel
theorem dX10_votes_41 : decode cX10_votes 41 = .ok (.bipush 7, 2) := by decide +kernel
theorem dX10_votes_43 : decode cX10_votes 43 = .ok (.if_icmp .ne 25, 3) := by decide +kernel
theorem dX10_votes_46 : decode cX10_votes 46 = .ok (.aload_n 0, 1) := by decide +kernel
theorem dX10_votes_47 : decode cX10_votes 47 = .ok (.getfield 98, 3) := by decide +kernel
theorem dX10_votes_50 : decode cX10_votes 50 = .ok (.iload_n 3, 1) := by decide +kernel
theorem dX10_votes_51 : decode cX10_votes 51 = .ok (.iaload, 1) := by decide +kernel
theorem dX10_votes_52 : decode cX10_votes 52 = .ok (.iconst (-1), 1) := by decide +kernel
theorem dX10_votes_53 : decode cX10_votes 53 = .ok (.if_icmp .eq 15, 3) := by decide +kernel
theorem dX10_votes_56 : decode cX10_votes 56 = .ok (.aload_n 0, 1) := by decide +kernel
theorem dX10_votes_57 : decode cX10_votes 57 = .ok (.getfield 107, 3) := by decide +kernel
theorem dX10_votes_60 : decode cX10_votes 60 = .ok (.aload_n 0, 1) := by decide +kernel
theorem dX10_votes_61 : decode cX10_votes 61 = .ok (.getfield 98, 3) := by decide +kernel
theorem dX10_votes_64 : decode cX10_votes 64 = .ok (.iload_n 3, 1) := by decide +kernel
theorem dX10_votes_65 : decode cX10_votes 65 = .ok (.iaload, 1) := by decide +kernel
theorem dX10_votes_66 : decode cX10_votes 66 = .ok (.iconst 1, 1) := by decide +kernel
theorem dX10_votes_67 : decode cX10_votes 67 = .ok (.bastore, 1) := by decide +kernel
theorem dX10_votes_68 : decode cX10_votes 68 = .ok (.iload_n 2, 1) := by decide +kernel
theorem dX10_votes_69 : decode cX10_votes 69 = .ok (.ifCond .ne 4, 3) := by decide +kernel
theorem dX10_votes_72 : decode cX10_votes 72 = .ok (.return_, 1) := by decide +kernel
theorem dX10_votes_73 : decode cX10_votes 73 = .ok (.aload_n 0, 1) := by decide +kernel
theorem dX10_votes_74 : decode cX10_votes 74 = .ok (.getfield 86, 3) := by decide +kernel
theorem dX10_votes_77 : decode cX10_votes 77 = .ok (.iload_n 3, 1) := by decide +kernel
theorem dX10_votes_78 : decode cX10_votes 78 = .ok (.iaload, 1) := by decide +kernel
theorem dX10_votes_79 : decode cX10_votes 79 = .ok (.tableswitch 217 0 6 #[41, 75, 94, 123, 152, 175, 204], 41) := by decide +kernel
theorem dX10_votes_120 : decode cX10_votes 120 = .ok (.aload_n 0, 1) := by decide +kernel
theorem dX10_votes_121 : decode cX10_votes 121 = .ok (.getfield 92, 3) := by decide +kernel
theorem dX10_votes_124 : decode cX10_votes 124 = .ok (.iload_n 3, 1) := by decide +kernel
theorem dX10_votes_125 : decode cX10_votes 125 = .ok (.iaload, 1) := by decide +kernel
theorem dX10_votes_126 : decode cX10_votes 126 = .ok (.iconst 1, 1) := by decide +kernel
theorem dX10_votes_127 : decode cX10_votes 127 = .ok (.bipush 20, 2) := by decide +kernel
theorem dX10_votes_129 : decode cX10_votes 129 = .ok (.invokestatic 184, 3) := by decide +kernel
theorem dX10_votes_132 : decode cX10_votes 132 = .ok (.ifCond .eq 191, 3) := by decide +kernel
theorem dX10_votes_135 : decode cX10_votes 135 = .ok (.aload_n 0, 1) := by decide +kernel
theorem dX10_votes_136 : decode cX10_votes 136 = .ok (.aload_n 0, 1) := by decide +kernel
theorem dX10_votes_137 : decode cX10_votes 137 = .ok (.getfield 92, 3) := by decide +kernel
theorem dX10_votes_140 : decode cX10_votes 140 = .ok (.iload_n 3, 1) := by decide +kernel
theorem dX10_votes_141 : decode cX10_votes 141 = .ok (.iaload, 1) := by decide +kernel
theorem dX10_votes_142 : decode cX10_votes 142 = .ok (.aload_n 0, 1) := by decide +kernel
theorem dX10_votes_143 : decode cX10_votes 143 = .ok (.getfield 95, 3) := by decide +kernel
theorem dX10_votes_146 : decode cX10_votes 146 = .ok (.iload_n 3, 1) := by decide +kernel
theorem dX10_votes_147 : decode cX10_votes 147 = .ok (.iaload, 1) := by decide +kernel
theorem dX10_votes_148 : decode cX10_votes 148 = .ok (.invokevirtual 359, 3) := by decide +kernel
theorem dX10_votes_151 : decode cX10_votes 151 = .ok (.goto 172, 3) := by decide +kernel
theorem dX10_votes_154 : decode cX10_votes 154 = .ok (.aload_n 0, 1) := by decide +kernel
theorem dX10_votes_155 : decode cX10_votes 155 = .ok (.aload_n 0, 1) := by decide +kernel
theorem dX10_votes_156 : decode cX10_votes 156 = .ok (.getfield 92, 3) := by decide +kernel
theorem dX10_votes_159 : decode cX10_votes 159 = .ok (.iload_n 3, 1) := by decide +kernel
theorem dX10_votes_160 : decode cX10_votes 160 = .ok (.iaload, 1) := by decide +kernel
theorem dX10_votes_161 : decode cX10_votes 161 = .ok (.aload_n 0, 1) := by decide +kernel
theorem dX10_votes_162 : decode cX10_votes 162 = .ok (.getfield 95, 3) := by decide +kernel
theorem dX10_votes_165 : decode cX10_votes 165 = .ok (.iload_n 3, 1) := by decide +kernel
theorem dX10_votes_166 : decode cX10_votes 166 = .ok (.iaload, 1) := by decide +kernel
theorem dX10_votes_167 : decode cX10_votes 167 = .ok (.invokevirtual 362, 3) := by decide +kernel
theorem dX10_votes_170 : decode cX10_votes 170 = .ok (.goto 153, 3) := by decide +kernel
theorem dX10_votes_173 : decode cX10_votes 173 = .ok (.iconst 0, 1) := by decide +kernel
theorem dX10_votes_174 : decode cX10_votes 174 = .ok (.istore 4, 2) := by decide +kernel
theorem dX10_votes_176 : decode cX10_votes 176 = .ok (.iload 4, 2) := by decide +kernel
theorem dX10_votes_178 : decode cX10_votes 178 = .ok (.aload_n 0, 1) := by decide +kernel
theorem dX10_votes_179 : decode cX10_votes 179 = .ok (.getfield 293, 3) := by decide +kernel
theorem dX10_votes_182 : decode cX10_votes 182 = .ok (.if_icmp .ge 17, 3) := by decide +kernel
theorem dX10_votes_185 : decode cX10_votes 185 = .ok (.aload_n 0, 1) := by decide +kernel
theorem dX10_votes_186 : decode cX10_votes 186 = .ok (.getfield 104, 3) := by decide +kernel
theorem dX10_votes_189 : decode cX10_votes 189 = .ok (.iload 4, 2) := by decide +kernel
theorem dX10_votes_191 : decode cX10_votes 191 = .ok (.iconst 1, 1) := by decide +kernel
theorem dX10_votes_192 : decode cX10_votes 192 = .ok (.bastore, 1) := by decide +kernel
theorem dX10_votes_193 : decode cX10_votes 193 = .ok (.iinc 4 1, 3) := by decide +kernel
theorem dX10_votes_196 : decode cX10_votes 196 = .ok (.goto (-20), 3) := by decide +kernel
theorem dX10_votes_199 : decode cX10_votes 199 = .ok (.goto 124, 3) := by decide +kernel
theorem dX10_votes_202 : decode cX10_votes 202 = .ok (.aload_n 0, 1) := by decide +kernel
theorem dX10_votes_203 : decode cX10_votes 203 = .ok (.aload_n 0, 1) := by decide +kernel
theorem dX10_votes_204 : decode cX10_votes 204 = .ok (.getfield 92, 3) := by decide +kernel
theorem dX10_votes_207 : decode cX10_votes 207 = .ok (.iload_n 3, 1) := by decide +kernel
theorem dX10_votes_208 : decode cX10_votes 208 = .ok (.iaload, 1) := by decide +kernel
theorem dX10_votes_209 : decode cX10_votes 209 = .ok (.ifCond .le 12, 3) := by decide +kernel
theorem dX10_votes_212 : decode cX10_votes 212 = .ok (.aload_n 0, 1) := by decide +kernel
theorem dX10_votes_213 : decode cX10_votes 213 = .ok (.getfield 92, 3) := by decide +kernel
theorem dX10_votes_216 : decode cX10_votes 216 = .ok (.iload_n 3, 1) := by decide +kernel
theorem dX10_votes_217 : decode cX10_votes 217 = .ok (.iaload, 1) := by decide +kernel
theorem dX10_votes_218 : decode cX10_votes 218 = .ok (.goto 7, 3) := by decide +kernel
theorem dX10_votes_221 : decode cX10_votes 221 = .ok (.aload_n 0, 1) := by decide +kernel
theorem dX10_votes_222 : decode cX10_votes 222 = .ok (.getfield 277, 3) := by decide +kernel
theorem dX10_votes_225 : decode cX10_votes 225 = .ok (.putfield 277, 3) := by decide +kernel
theorem dX10_votes_228 : decode cX10_votes 228 = .ok (.goto 95, 3) := by decide +kernel
theorem dX10_votes_231 : decode cX10_votes 231 = .ok (.aload_n 0, 1) := by decide +kernel
theorem dX10_votes_232 : decode cX10_votes 232 = .ok (.iconst 0, 1) := by decide +kernel
theorem dX10_votes_233 : decode cX10_votes 233 = .ok (.putfield 296, 3) := by decide +kernel
theorem dX10_votes_236 : decode cX10_votes 236 = .ok (.aload_n 0, 1) := by decide +kernel
theorem dX10_votes_237 : decode cX10_votes 237 = .ok (.iconst 0, 1) := by decide +kernel
theorem dX10_votes_238 : decode cX10_votes 238 = .ok (.putfield 299, 3) := by decide +kernel
theorem dX10_votes_241 : decode cX10_votes 241 = .ok (.aload_n 0, 1) := by decide +kernel
theorem dX10_votes_242 : decode cX10_votes 242 = .ok (.iconst 0, 1) := by decide +kernel
theorem dX10_votes_243 : decode cX10_votes 243 = .ok (.putfield 302, 3) := by decide +kernel
theorem dX10_votes_246 : decode cX10_votes 246 = .ok (.aload_n 0, 1) := by decide +kernel
theorem dX10_votes_247 : decode cX10_votes 247 = .ok (.iconst 0, 1) := by decide +kernel
theorem dX10_votes_248 : decode cX10_votes 248 = .ok (.putfield 293, 3) := by decide +kernel
theorem dX10_votes_251 : decode cX10_votes 251 = .ok (.goto 72, 3) := by decide +kernel
theorem dX10_votes_254 : decode cX10_votes 254 = .ok (.aload_n 0, 1) := by decide +kernel
theorem dX10_votes_255 : decode cX10_votes 255 = .ok (.aload_n 0, 1) := by decide +kernel
theorem dX10_votes_256 : decode cX10_votes 256 = .ok (.getfield 92, 3) := by decide +kernel
theorem dX10_votes_259 : decode cX10_votes 259 = .ok (.iload_n 3, 1) := by decide +kernel
theorem dX10_votes_260 : decode cX10_votes 260 = .ok (.iaload, 1) := by decide +kernel
theorem dX10_votes_261 : decode cX10_votes 261 = .ok (.ifCond .le 12, 3) := by decide +kernel
theorem dX10_votes_264 : decode cX10_votes 264 = .ok (.aload_n 0, 1) := by decide +kernel
theorem dX10_votes_265 : decode cX10_votes 265 = .ok (.getfield 92, 3) := by decide +kernel
theorem dX10_votes_268 : decode cX10_votes 268 = .ok (.iload_n 3, 1) := by decide +kernel
theorem dX10_votes_269 : decode cX10_votes 269 = .ok (.iaload, 1) := by decide +kernel
theorem dX10_votes_270 : decode cX10_votes 270 = .ok (.goto 7, 3) := by decide +kernel
theorem dX10_votes_273 : decode cX10_votes 273 = .ok (.aload_n 0, 1) := by decide +kernel
theorem dX10_votes_274 : decode cX10_votes 274 = .ok (.getfield 283, 3) := by decide +kernel
theorem dX10_votes_277 : decode cX10_votes 277 = .ok (.putfield 283, 3) := by decide +kernel
theorem dX10_votes_280 : decode cX10_votes 280 = .ok (.goto 43, 3) := by decide +kernel
theorem dX10_votes_283 : decode cX10_votes 283 = .ok (.aload_n 0, 1) := by decide +kernel
theorem dX10_votes_284 : decode cX10_votes 284 = .ok (.iconst 1, 1) := by decide +kernel
theorem dX10_votes_285 : decode cX10_votes 285 = .ok (.putfield 290, 3) := by decide +kernel
theorem dX10_votes_288 : decode cX10_votes 288 = .ok (.aload_n 0, 1) := by decide +kernel
theorem dX10_votes_289 : decode cX10_votes 289 = .ok (.iconst 0, 1) := by decide +kernel
theorem dX10_votes_290 : decode cX10_votes 290 = .ok (.putfield 293, 3) := by decide +kernel
theorem dX10_votes_293 : decode cX10_votes 293 = .ok (.goto 30, 3) := by decide +kernel
theorem dX10_votes_296 : decode cX10_votes 296 = .ok (.aload_n 0, 1) := by decide +kernel
theorem dX10_votes_297 : decode cX10_votes 297 = .ok (.getfield 98, 3) := by decide +kernel
theorem dX10_votes_300 : decode cX10_votes 300 = .ok (.iload_n 3, 1) := by decide +kernel
theorem dX10_votes_301 : decode cX10_votes 301 = .ok (.iaload, 1) := by decide +kernel
theorem dX10_votes_302 : decode cX10_votes 302 = .ok (.iconst (-1), 1) := by decide +kernel
theorem dX10_votes_303 : decode cX10_votes 303 = .ok (.if_icmp .eq 20, 3) := by decide +kernel
theorem dX10_votes_306 : decode cX10_votes 306 = .ok (.aload_n 0, 1) := by decide +kernel
theorem dX10_votes_307 : decode cX10_votes 307 = .ok (.getfield 70, 3) := by decide +kernel
theorem dX10_votes_310 : decode cX10_votes 310 = .ok (.aload_n 0, 1) := by decide +kernel
theorem dX10_votes_311 : decode cX10_votes 311 = .ok (.getfield 265, 3) := by decide +kernel
theorem dX10_votes_314 : decode cX10_votes 314 = .ok (.aaload, 1) := by decide +kernel
theorem dX10_votes_315 : decode cX10_votes 315 = .ok (.aload_n 0, 1) := by decide +kernel
theorem dX10_votes_316 : decode cX10_votes 316 = .ok (.getfield 98, 3) := by decide +kernel
theorem dX10_votes_319 : decode cX10_votes 319 = .ok (.iload_n 3, 1) := by decide +kernel
theorem dX10_votes_320 : decode cX10_votes 320 = .ok (.iaload, 1) := by decide +kernel
theorem dX10_votes_321 : decode cX10_votes 321 = .ok (.iconst 1, 1) := by decide +kernel
theorem dX10_votes_322 : decode cX10_votes 322 = .ok (.bastore, 1) := by decide +kernel
theorem dX10_votes_323 : decode cX10_votes 323 = .ok (.return_, 1) := by decide +kernel
theorem dX10_papers_0 : decode cX10_papers 0 = .ok (.aload_n 0, 1) := by decide +kernel
theorem dX10_papers_1 : decode cX10_papers 1 = .ok (.iconst 1, 1) := by decide +kernel
theorem dX10_papers_2 : decode cX10_papers 2 = .ok (.putfield 296, 3) := by decide +kernel
theorem dX10_papers_5 : decode cX10_papers 5 = .ok (.aload_n 0, 1) := by decide +kernel
theorem dX10_papers_6 : decode cX10_papers 6 = .ok (.iload_n 1, 1) := by decide +kernel
theorem dX10_papers_7 : decode cX10_papers 7 = .ok (.putfield 299, 3) := by decide +kernel
theorem dX10_papers_10 : decode cX10_papers 10 = .ok (.aload_n 0, 1) := by decide +kernel
theorem dX10_papers_11 : decode cX10_papers 11 = .ok (.aload_n 0, 1) := by decide +kernel
theorem dX10_papers_12 : decode cX10_papers 12 = .ok (.getfield 299, 3) := by decide +kernel
theorem dX10_papers_15 : decode cX10_papers 15 = .ok (.putfield 302, 3) := by decide +kernel
theorem dX10_papers_18 : decode cX10_papers 18 = .ok (.iconst 0, 1) := by decide +kernel
theorem dX10_papers_19 : decode cX10_papers 19 = .ok (.istore_n 3, 1) := by decide +kernel
theorem dX10_papers_20 : decode cX10_papers 20 = .ok (.iload_n 3, 1) := by decide +kernel
theorem dX10_papers_21 : decode cX10_papers 21 = .ok (.aload_n 0, 1) := by decide +kernel
theorem dX10_papers_22 : decode cX10_papers 22 = .ok (.getfield 299, 3) := by decide +kernel
theorem dX10_papers_25 : decode cX10_papers 25 = .ok (.if_icmp .ge 25, 3) := by decide +kernel
theorem dX10_papers_28 : decode cX10_papers 28 = .ok (.aload_n 0, 1) := by decide +kernel
theorem dX10_papers_29 : decode cX10_papers 29 = .ok (.getfield 110, 3) := by decide +kernel
theorem dX10_papers_32 : decode cX10_papers 32 = .ok (.iload_n 3, 1) := by decide +kernel
theorem dX10_papers_33 : decode cX10_papers 33 = .ok (.iload_n 3, 1) := by decide +kernel
theorem dX10_papers_34 : decode cX10_papers 34 = .ok (.iastore, 1) := by decide +kernel
theorem dX10_papers_35 : decode cX10_papers 35 = .ok (.aload_n 0, 1) := by decide +kernel
theorem dX10_papers_36 : decode cX10_papers 36 = .ok (.getfield 113, 3) := by decide +kernel
theorem dX10_papers_39 : decode cX10_papers 39 = .ok (.iload_n 3, 1) := by decide +kernel
theorem dX10_papers_40 : decode cX10_papers 40 = .ok (.iload_n 2, 1) := by decide +kernel
theorem dX10_papers_41 : decode cX10_papers 41 = .ok (.iload_n 3, 1) := by decide +kernel
theorem dX10_papers_42 : decode cX10_papers 42 = .ok (.iadd, 1) := by decide +kernel
theorem dX10_papers_43 : decode cX10_papers 43 = .ok (.iastore, 1) := by decide +kernel
theorem dX10_papers_44 : decode cX10_papers 44 = .ok (.iinc 3 1, 3) := by decide +kernel
theorem dX10_papers_47 : decode cX10_papers 47 = .ok (.goto (-27), 3) := by decide +kernel
theorem dX10_papers_50 : decode cX10_papers 50 = .ok (.return_, 1) := by decide +kernel
theorem dX10_goes_0 : decode cX10_goes 0 = .ok (.aload_n 0, 1) := by decide +kernel
theorem dX10_goes_1 : decode cX10_goes 1 = .ok (.getfield 110, 3) := by decide +kernel
theorem dX10_goes_4 : decode cX10_goes 4 = .ok (.iload_n 1, 1) := by decide +kernel
theorem dX10_goes_5 : decode cX10_goes 5 = .ok (.iaload, 1) := by decide +kernel
theorem dX10_goes_6 : decode cX10_goes 6 = .ok (.istore_n 2, 1) := by decide +kernel
theorem dX10_goes_7 : decode cX10_goes 7 = .ok (.aload_n 0, 1) := by decide +kernel
theorem dX10_goes_8 : decode cX10_goes 8 = .ok (.getfield 116, 3) := by decide +kernel
theorem dX10_goes_11 : decode cX10_goes 11 = .ok (.iload_n 2, 1) := by decide +kernel
theorem dX10_goes_12 : decode cX10_goes 12 = .ok (.iload_n 1, 1) := by decide +kernel
theorem dX10_goes_13 : decode cX10_goes 13 = .ok (.iastore, 1) := by decide +kernel
theorem dX10_goes_14 : decode cX10_goes 14 = .ok (.iconst 0, 1) := by decide +kernel
theorem dX10_goes_15 : decode cX10_goes 15 = .ok (.istore_n 3, 1) := by decide +kernel
theorem dX10_goes_16 : decode cX10_goes 16 = .ok (.iload_n 3, 1) := by decide +kernel
theorem dX10_goes_17 : decode cX10_goes 17 = .ok (.iload_n 1, 1) := by decide +kernel
theorem dX10_goes_18 : decode cX10_goes 18 = .ok (.if_icmp .ge 23, 3) := by decide +kernel
theorem dX10_goes_21 : decode cX10_goes 21 = .ok (.aload_n 0, 1) := by decide +kernel
theorem dX10_goes_22 : decode cX10_goes 22 = .ok (.getfield 119, 3) := by decide +kernel
theorem dX10_goes_25 : decode cX10_goes 25 = .ok (.iload_n 2, 1) := by decide +kernel
theorem dX10_goes_26 : decode cX10_goes 26 = .ok (.aaload, 1) := by decide +kernel
theorem dX10_goes_27 : decode cX10_goes 27 = .ok (.iload_n 3, 1) := by decide +kernel
theorem dX10_goes_28 : decode cX10_goes 28 = .ok (.aload_n 0, 1) := by decide +kernel
theorem dX10_goes_29 : decode cX10_goes 29 = .ok (.getfield 110, 3) := by decide +kernel
theorem dX10_goes_32 : decode cX10_goes 32 = .ok (.iload_n 3, 1) := by decide +kernel
theorem dX10_goes_33 : decode cX10_goes 33 = .ok (.iaload, 1) := by decide +kernel
theorem dX10_goes_34 : decode cX10_goes 34 = .ok (.iastore, 1) := by decide +kernel
theorem dX10_goes_35 : decode cX10_goes 35 = .ok (.iinc 3 1, 3) := by decide +kernel
theorem dX10_goes_38 : decode cX10_goes 38 = .ok (.goto (-22), 3) := by decide +kernel
theorem dX10_goes_41 : decode cX10_goes 41 = .ok (.aload_n 0, 1) := by decide +kernel
theorem dX10_goes_42 : decode cX10_goes 42 = .ok (.dup, 1) := by decide +kernel
theorem dX10_goes_43 : decode cX10_goes 43 = .ok (.getfield 299, 3) := by decide +kernel
theorem dX10_goes_46 : decode cX10_goes 46 = .ok (.iconst 1, 1) := by decide +kernel
theorem dX10_goes_47 : decode cX10_goes 47 = .ok (.isub, 1) := by decide +kernel
theorem dX10_goes_48 : decode cX10_goes 48 = .ok (.putfield 299, 3) := by decide +kernel
theorem dX10_goes_51 : decode cX10_goes 51 = .ok (.iload_n 1, 1) := by decide +kernel
theorem dX10_goes_52 : decode cX10_goes 52 = .ok (.istore_n 3, 1) := by decide +kernel
theorem dX10_goes_53 : decode cX10_goes 53 = .ok (.iload_n 3, 1) := by decide +kernel
theorem dX10_goes_54 : decode cX10_goes 54 = .ok (.aload_n 0, 1) := by decide +kernel
theorem dX10_goes_55 : decode cX10_goes 55 = .ok (.getfield 299, 3) := by decide +kernel
theorem dX10_goes_58 : decode cX10_goes 58 = .ok (.if_icmp .ge 37, 3) := by decide +kernel
theorem dX10_goes_61 : decode cX10_goes 61 = .ok (.aload_n 0, 1) := by decide +kernel
theorem dX10_goes_62 : decode cX10_goes 62 = .ok (.getfield 110, 3) := by decide +kernel
theorem dX10_goes_65 : decode cX10_goes 65 = .ok (.iload_n 3, 1) := by decide +kernel
theorem dX10_goes_66 : decode cX10_goes 66 = .ok (.aload_n 0, 1) := by decide +kernel
theorem dX10_goes_67 : decode cX10_goes 67 = .ok (.getfield 110, 3) := by decide +kernel
theorem dX10_goes_70 : decode cX10_goes 70 = .ok (.iload_n 3, 1) := by decide +kernel
theorem dX10_goes_71 : decode cX10_goes 71 = .ok (.iconst 1, 1) := by decide +kernel
theorem dX10_goes_72 : decode cX10_goes 72 = .ok (.iadd, 1) := by decide +kernel
theorem dX10_goes_73 : decode cX10_goes 73 = .ok (.iaload, 1) := by decide +kernel
theorem dX10_goes_74 : decode cX10_goes 74 = .ok (.iastore, 1) := by decide +kernel
theorem dX10_goes_75 : decode cX10_goes 75 = .ok (.aload_n 0, 1) := by decide +kernel
theorem dX10_goes_76 : decode cX10_goes 76 = .ok (.getfield 113, 3) := by decide +kernel
theorem dX10_goes_79 : decode cX10_goes 79 = .ok (.iload_n 3, 1) := by decide +kernel
theorem dX10_goes_80 : decode cX10_goes 80 = .ok (.aload_n 0, 1) := by decide +kernel
theorem dX10_goes_81 : decode cX10_goes 81 = .ok (.getfield 113, 3) := by decide +kernel
theorem dX10_goes_84 : decode cX10_goes 84 = .ok (.iload_n 3, 1) := by decide +kernel
theorem dX10_goes_85 : decode cX10_goes 85 = .ok (.iconst 1, 1) := by decide +kernel
theorem dX10_goes_86 : decode cX10_goes 86 = .ok (.iadd, 1) := by decide +kernel
theorem dX10_goes_87 : decode cX10_goes 87 = .ok (.iaload, 1) := by decide +kernel
theorem dX10_goes_88 : decode cX10_goes 88 = .ok (.iastore, 1) := by decide +kernel
theorem dX10_goes_89 : decode cX10_goes 89 = .ok (.iinc 3 1, 3) := by decide +kernel
theorem dX10_goes_92 : decode cX10_goes 92 = .ok (.goto (-39), 3) := by decide +kernel
theorem dX10_goes_95 : decode cX10_goes 95 = .ok (.return_, 1) := by decide +kernel
theorem dX10_adds_0 : decode cX10_adds 0 = .ok (.aload_n 0, 1) := by decide +kernel
theorem dX10_adds_1 : decode cX10_adds 1 = .ok (.getfield 299, 3) := by decide +kernel
theorem dX10_adds_4 : decode cX10_adds 4 = .ok (.istore_n 3, 1) := by decide +kernel
theorem dX10_adds_5 : decode cX10_adds 5 = .ok (.iload_n 3, 1) := by decide +kernel
theorem dX10_adds_6 : decode cX10_adds 6 = .ok (.iload_n 1, 1) := by decide +kernel
theorem dX10_adds_7 : decode cX10_adds 7 = .ok (.if_icmp .le 37, 3) := by decide +kernel
theorem dX10_adds_10 : decode cX10_adds 10 = .ok (.aload_n 0, 1) := by decide +kernel
theorem dX10_adds_11 : decode cX10_adds 11 = .ok (.getfield 110, 3) := by decide +kernel
theorem dX10_adds_14 : decode cX10_adds 14 = .ok (.iload_n 3, 1) := by decide +kernel
theorem dX10_adds_15 : decode cX10_adds 15 = .ok (.aload_n 0, 1) := by decide +kernel
theorem dX10_adds_16 : decode cX10_adds 16 = .ok (.getfield 110, 3) := by decide +kernel
theorem dX10_adds_19 : decode cX10_adds 19 = .ok (.iload_n 3, 1) := by decide +kernel
theorem dX10_adds_20 : decode cX10_adds 20 = .ok (.iconst 1, 1) := by decide +kernel
theorem dX10_adds_21 : decode cX10_adds 21 = .ok (.isub, 1) := by decide +kernel
theorem dX10_adds_22 : decode cX10_adds 22 = .ok (.iaload, 1) := by decide +kernel
theorem dX10_adds_23 : decode cX10_adds 23 = .ok (.iastore, 1) := by decide +kernel
theorem dX10_adds_24 : decode cX10_adds 24 = .ok (.aload_n 0, 1) := by decide +kernel
theorem dX10_adds_25 : decode cX10_adds 25 = .ok (.getfield 113, 3) := by decide +kernel
theorem dX10_adds_28 : decode cX10_adds 28 = .ok (.iload_n 3, 1) := by decide +kernel
theorem dX10_adds_29 : decode cX10_adds 29 = .ok (.aload_n 0, 1) := by decide +kernel
theorem dX10_adds_30 : decode cX10_adds 30 = .ok (.getfield 113, 3) := by decide +kernel
theorem dX10_adds_33 : decode cX10_adds 33 = .ok (.iload_n 3, 1) := by decide +kernel
theorem dX10_adds_34 : decode cX10_adds 34 = .ok (.iconst 1, 1) := by decide +kernel
theorem dX10_adds_35 : decode cX10_adds 35 = .ok (.isub, 1) := by decide +kernel
theorem dX10_adds_36 : decode cX10_adds 36 = .ok (.iaload, 1) := by decide +kernel
theorem dX10_adds_37 : decode cX10_adds 37 = .ok (.iastore, 1) := by decide +kernel
theorem dX10_adds_38 : decode cX10_adds 38 = .ok (.iinc 3 (-1), 3) := by decide +kernel
theorem dX10_adds_41 : decode cX10_adds 41 = .ok (.goto (-36), 3) := by decide +kernel
theorem dX10_adds_44 : decode cX10_adds 44 = .ok (.aload_n 0, 1) := by decide +kernel
theorem dX10_adds_45 : decode cX10_adds 45 = .ok (.getfield 110, 3) := by decide +kernel
theorem dX10_adds_48 : decode cX10_adds 48 = .ok (.iload_n 1, 1) := by decide +kernel
theorem dX10_adds_49 : decode cX10_adds 49 = .ok (.aload_n 0, 1) := by decide +kernel
theorem dX10_adds_50 : decode cX10_adds 50 = .ok (.getfield 302, 3) := by decide +kernel
theorem dX10_adds_53 : decode cX10_adds 53 = .ok (.iastore, 1) := by decide +kernel
theorem dX10_adds_54 : decode cX10_adds 54 = .ok (.aload_n 0, 1) := by decide +kernel
theorem dX10_adds_55 : decode cX10_adds 55 = .ok (.getfield 113, 3) := by decide +kernel
theorem dX10_adds_58 : decode cX10_adds 58 = .ok (.iload_n 1, 1) := by decide +kernel
theorem dX10_adds_59 : decode cX10_adds 59 = .ok (.iload_n 2, 1) := by decide +kernel
theorem dX10_adds_60 : decode cX10_adds 60 = .ok (.iastore, 1) := by decide +kernel
theorem dX10_adds_61 : decode cX10_adds 61 = .ok (.aload_n 0, 1) := by decide +kernel
theorem dX10_adds_62 : decode cX10_adds 62 = .ok (.dup, 1) := by decide +kernel
theorem dX10_adds_63 : decode cX10_adds 63 = .ok (.getfield 302, 3) := by decide +kernel
theorem dX10_adds_66 : decode cX10_adds 66 = .ok (.iconst 1, 1) := by decide +kernel
theorem dX10_adds_67 : decode cX10_adds 67 = .ok (.iadd, 1) := by decide +kernel
theorem dX10_adds_68 : decode cX10_adds 68 = .ok (.putfield 302, 3) := by decide +kernel
theorem dX10_adds_71 : decode cX10_adds 71 = .ok (.aload_n 0, 1) := by decide +kernel
theorem dX10_adds_72 : decode cX10_adds 72 = .ok (.dup, 1) := by decide +kernel
theorem dX10_adds_73 : decode cX10_adds 73 = .ok (.getfield 299, 3) := by decide +kernel
theorem dX10_adds_76 : decode cX10_adds 76 = .ok (.iconst 1, 1) := by decide +kernel
theorem dX10_adds_77 : decode cX10_adds 77 = .ok (.iadd, 1) := by decide +kernel
theorem dX10_adds_78 : decode cX10_adds 78 = .ok (.putfield 299, 3) := by decide +kernel
theorem dX10_adds_81 : decode cX10_adds 81 = .ok (.return_, 1) := by decide +kernel
theorem dX10_amends_0 : decode cX10_amends 0 = .ok (.iload_n 1, 1) := by decide +kernel
theorem dX10_amends_1 : decode cX10_amends 1 = .ok (.iconst 4, 1) := by decide +kernel
theorem dX10_amends_2 : decode cX10_amends 2 = .ok (.idiv, 1) := by decide +kernel
theorem dX10_amends_3 : decode cX10_amends 3 = .ok (.istore_n 3, 1) := by decide +kernel
theorem dX10_amends_4 : decode cX10_amends 4 = .ok (.aload_n 0, 1) := by decide +kernel
theorem dX10_amends_5 : decode cX10_amends 5 = .ok (.iload_n 3, 1) := by decide +kernel
theorem dX10_amends_6 : decode cX10_amends 6 = .ok (.invokevirtual 333, 3) := by decide +kernel
theorem dX10_amends_9 : decode cX10_amends 9 = .ok (.istore 4, 2) := by decide +kernel
theorem dX10_amends_11 : decode cX10_amends 11 = .ok (.aload_n 0, 1) := by decide +kernel
theorem dX10_amends_12 : decode cX10_amends 12 = .ok (.getfield 296, 3) := by decide +kernel
theorem dX10_amends_15 : decode cX10_amends 15 = .ok (.ifCond .eq 11, 3) := by decide +kernel
theorem dX10_amends_18 : decode cX10_amends 18 = .ok (.iload_n 3, 1) := by decide +kernel
theorem dX10_amends_19 : decode cX10_amends 19 = .ok (.aload_n 0, 1) := by decide +kernel
theorem dX10_amends_20 : decode cX10_amends 20 = .ok (.getfield 302, 3) := by decide +kernel
theorem dX10_amends_23 : decode cX10_amends 23 = .ok (.if_icmp .lt 4, 3) := by decide +kernel
theorem dX10_amends_26 : decode cX10_amends 26 = .ok (.return_, 1) := by decide +kernel
theorem dX10_amends_27 : decode cX10_amends 27 = .ok (.iload_n 1, 1) := by decide +kernel
theorem dX10_amends_28 : decode cX10_amends 28 = .ok (.iconst 4, 1) := by decide +kernel
theorem dX10_amends_29 : decode cX10_amends 29 = .ok (.irem, 1) := by decide +kernel
theorem dX10_amends_30 : decode cX10_amends 30 = .ok (.ifCond .ne 36, 3) := by decide +kernel
theorem dX10_amends_33 : decode cX10_amends 33 = .ok (.aload_n 0, 1) := by decide +kernel
theorem dX10_amends_34 : decode cX10_amends 34 = .ok (.getfield 299, 3) := by decide +kernel
theorem dX10_amends_37 : decode cX10_amends 37 = .ok (.bipush 40, 2) := by decide +kernel
theorem dX10_amends_39 : decode cX10_amends 39 = .ok (.if_icmp .ge 26, 3) := by decide +kernel
theorem dX10_amends_42 : decode cX10_amends 42 = .ok (.aload_n 0, 1) := by decide +kernel
theorem dX10_amends_43 : decode cX10_amends 43 = .ok (.iload 4, 2) := by decide +kernel
theorem dX10_amends_45 : decode cX10_amends 45 = .ok (.iconst (-1), 1) := by decide +kernel
theorem dX10_amends_46 : decode cX10_amends 46 = .ok (.if_icmp .eq 10, 3) := by decide +kernel
theorem dX10_amends_49 : decode cX10_amends 49 = .ok (.iload 4, 2) := by decide +kernel
theorem dX10_amends_51 : decode cX10_amends 51 = .ok (.iconst 1, 1) := by decide +kernel
theorem dX10_amends_52 : decode cX10_amends 52 = .ok (.iadd, 1) := by decide +kernel
theorem dX10_amends_53 : decode cX10_amends 53 = .ok (.goto 8, 3) := by decide +kernel
theorem dX10_amends_56 : decode cX10_amends 56 = .ok (.aload_n 0, 1) := by decide +kernel
theorem dX10_amends_57 : decode cX10_amends 57 = .ok (.iload_n 3, 1) := by decide +kernel
theorem dX10_amends_58 : decode cX10_amends 58 = .ok (.invokevirtual 365, 3) := by decide +kernel
theorem dX10_amends_61 : decode cX10_amends 61 = .ok (.iload_n 2, 1) := by decide +kernel
theorem dX10_amends_62 : decode cX10_amends 62 = .ok (.invokevirtual 368, 3) := by decide +kernel
theorem dX10_amends_65 : decode cX10_amends 65 = .ok (.return_, 1) := by decide +kernel
theorem dX10_amends_66 : decode cX10_amends 66 = .ok (.iload 4, 2) := by decide +kernel
theorem dX10_amends_68 : decode cX10_amends 68 = .ok (.iconst (-1), 1) := by decide +kernel
theorem dX10_amends_69 : decode cX10_amends 69 = .ok (.if_icmp .ne 4, 3) := by decide +kernel
theorem dX10_amends_72 : decode cX10_amends 72 = .ok (.return_, 1) := by decide +kernel
theorem dX10_amends_73 : decode cX10_amends 73 = .ok (.iload_n 1, 1) := by decide +kernel
theorem dX10_amends_74 : decode cX10_amends 74 = .ok (.iconst 4, 1) := by decide +kernel
theorem dX10_amends_75 : decode cX10_amends 75 = .ok (.irem, 1) := by decide +kernel
theorem dX10_amends_76 : decode cX10_amends 76 = .ok (.iconst 1, 1) := by decide +kernel
theorem dX10_amends_77 : decode cX10_amends 77 = .ok (.if_icmp .ne 12, 3) := by decide +kernel
theorem dX10_amends_80 : decode cX10_amends 80 = .ok (.aload_n 0, 1) := by decide +kernel
theorem dX10_amends_81 : decode cX10_amends 81 = .ok (.iload 4, 2) := by decide +kernel
theorem dX10_amends_83 : decode cX10_amends 83 = .ok (.invokevirtual 371, 3) := by decide +kernel
theorem dX10_amends_86 : decode cX10_amends 86 = .ok (.goto 85, 3) := by decide +kernel
theorem dX10_amends_89 : decode cX10_amends 89 = .ok (.iload_n 1, 1) := by decide +kernel
theorem dX10_amends_90 : decode cX10_amends 90 = .ok (.iconst 4, 1) := by decide +kernel
theorem dX10_amends_91 : decode cX10_amends 91 = .ok (.irem, 1) := by decide +kernel
theorem dX10_amends_92 : decode cX10_amends 92 = .ok (.iconst 2, 1) := by decide +kernel
theorem dX10_amends_93 : decode cX10_amends 93 = .ok (.if_icmp .ne 14, 3) := by decide +kernel
theorem dX10_amends_96 : decode cX10_amends 96 = .ok (.aload_n 0, 1) := by decide +kernel
theorem dX10_amends_97 : decode cX10_amends 97 = .ok (.getfield 113, 3) := by decide +kernel
theorem dX10_amends_100 : decode cX10_amends 100 = .ok (.iload 4, 2) := by decide +kernel
theorem dX10_amends_102 : decode cX10_amends 102 = .ok (.iload_n 2, 1) := by decide +kernel
theorem dX10_amends_103 : decode cX10_amends 103 = .ok (.iastore, 1) := by decide +kernel
theorem dX10_amends_104 : decode cX10_amends 104 = .ok (.goto 67, 3) := by decide +kernel
theorem dX10_amends_107 : decode cX10_amends 107 = .ok (.iload 4, 2) := by decide +kernel
theorem dX10_amends_109 : decode cX10_amends 109 = .ok (.iconst 1, 1) := by decide +kernel
theorem dX10_amends_110 : decode cX10_amends 110 = .ok (.iadd, 1) := by decide +kernel
theorem dX10_amends_111 : decode cX10_amends 111 = .ok (.aload_n 0, 1) := by decide +kernel
theorem dX10_amends_112 : decode cX10_amends 112 = .ok (.getfield 299, 3) := by decide +kernel
theorem dX10_amends_115 : decode cX10_amends 115 = .ok (.if_icmp .ge 56, 3) := by decide +kernel
theorem dX10_amends_118 : decode cX10_amends 118 = .ok (.aload_n 0, 1) := by decide +kernel
theorem dX10_amends_119 : decode cX10_amends 119 = .ok (.getfield 113, 3) := by decide +kernel
theorem dX10_amends_122 : decode cX10_amends 122 = .ok (.iload 4, 2) := by decide +kernel
theorem dX10_amends_124 : decode cX10_amends 124 = .ok (.aload_n 0, 1) := by decide +kernel
theorem dX10_amends_125 : decode cX10_amends 125 = .ok (.getfield 113, 3) := by decide +kernel
theorem dX10_amends_128 : decode cX10_amends 128 = .ok (.iload 4, 2) := by decide +kernel
theorem dX10_amends_130 : decode cX10_amends 130 = .ok (.iaload, 1) := by decide +kernel
theorem dX10_amends_131 : decode cX10_amends 131 = .ok (.aload_n 0, 1) := by decide +kernel
theorem dX10_amends_132 : decode cX10_amends 132 = .ok (.getfield 113, 3) := by decide +kernel
theorem dX10_amends_135 : decode cX10_amends 135 = .ok (.iload 4, 2) := by decide +kernel
theorem dX10_amends_137 : decode cX10_amends 137 = .ok (.iconst 1, 1) := by decide +kernel
theorem dX10_amends_138 : decode cX10_amends 138 = .ok (.iadd, 1) := by decide +kernel
theorem dX10_amends_139 : decode cX10_amends 139 = .ok (.iaload, 1) := by decide +kernel
theorem dX10_amends_140 : decode cX10_amends 140 = .ok (.if_icmp .le 13, 3) := by decide +kernel
theorem dX10_amends_143 : decode cX10_amends 143 = .ok (.aload_n 0, 1) := by decide +kernel
theorem dX10_amends_144 : decode cX10_amends 144 = .ok (.getfield 113, 3) := by decide +kernel
theorem dX10_amends_147 : decode cX10_amends 147 = .ok (.iload 4, 2) := by decide +kernel
theorem dX10_amends_149 : decode cX10_amends 149 = .ok (.iaload, 1) := by decide +kernel
theorem dX10_amends_150 : decode cX10_amends 150 = .ok (.goto 12, 3) := by decide +kernel
theorem dX10_amends_153 : decode cX10_amends 153 = .ok (.aload_n 0, 1) := by decide +kernel
theorem dX10_amends_154 : decode cX10_amends 154 = .ok (.getfield 113, 3) := by decide +kernel
theorem dX10_amends_157 : decode cX10_amends 157 = .ok (.iload 4, 2) := by decide +kernel
theorem dX10_amends_159 : decode cX10_amends 159 = .ok (.iconst 1, 1) := by decide +kernel
theorem dX10_amends_160 : decode cX10_amends 160 = .ok (.iadd, 1) := by decide +kernel
theorem dX10_amends_161 : decode cX10_amends 161 = .ok (.iaload, 1) := by decide +kernel
theorem dX10_amends_162 : decode cX10_amends 162 = .ok (.iastore, 1) := by decide +kernel
theorem dX10_amends_163 : decode cX10_amends 163 = .ok (.aload_n 0, 1) := by decide +kernel
theorem dX10_amends_164 : decode cX10_amends 164 = .ok (.iload 4, 2) := by decide +kernel
theorem dX10_amends_166 : decode cX10_amends 166 = .ok (.iconst 1, 1) := by decide +kernel
theorem dX10_amends_167 : decode cX10_amends 167 = .ok (.iadd, 1) := by decide +kernel
theorem dX10_amends_168 : decode cX10_amends 168 = .ok (.invokevirtual 371, 3) := by decide +kernel
theorem dX10_amends_171 : decode cX10_amends 171 = .ok (.return_, 1) := by decide +kernel
theorem dX10_behindGone_0 : decode cX10_behindGone 0 = .ok (.aload_n 0, 1) := by decide +kernel
theorem dX10_behindGone_1 : decode cX10_behindGone 1 = .ok (.getfield 116, 3) := by decide +kernel
theorem dX10_behindGone_4 : decode cX10_behindGone 4 = .ok (.iload_n 1, 1) := by decide +kernel
theorem dX10_behindGone_5 : decode cX10_behindGone 5 = .ok (.iaload, 1) := by decide +kernel
theorem dX10_behindGone_6 : decode cX10_behindGone 6 = .ok (.iconst 1, 1) := by decide +kernel
theorem dX10_behindGone_7 : decode cX10_behindGone 7 = .ok (.isub, 1) := by decide +kernel
theorem dX10_behindGone_8 : decode cX10_behindGone 8 = .ok (.istore_n 2, 1) := by decide +kernel
theorem dX10_behindGone_9 : decode cX10_behindGone 9 = .ok (.iload_n 2, 1) := by decide +kernel
theorem dX10_behindGone_10 : decode cX10_behindGone 10 = .ok (.ifCond .lt 31, 3) := by decide +kernel
theorem dX10_behindGone_13 : decode cX10_behindGone 13 = .ok (.aload_n 0, 1) := by decide +kernel
theorem dX10_behindGone_14 : decode cX10_behindGone 14 = .ok (.aload_n 0, 1) := by decide +kernel
theorem dX10_behindGone_15 : decode cX10_behindGone 15 = .ok (.getfield 119, 3) := by decide +kernel
theorem dX10_behindGone_18 : decode cX10_behindGone 18 = .ok (.iload_n 1, 1) := by decide +kernel
theorem dX10_behindGone_19 : decode cX10_behindGone 19 = .ok (.aaload, 1) := by decide +kernel
theorem dX10_behindGone_20 : decode cX10_behindGone 20 = .ok (.iload_n 2, 1) := by decide +kernel
theorem dX10_behindGone_21 : decode cX10_behindGone 21 = .ok (.iaload, 1) := by decide +kernel
theorem dX10_behindGone_22 : decode cX10_behindGone 22 = .ok (.invokevirtual 333, 3) := by decide +kernel
theorem dX10_behindGone_25 : decode cX10_behindGone 25 = .ok (.istore_n 3, 1) := by decide +kernel
theorem dX10_behindGone_26 : decode cX10_behindGone 26 = .ok (.iload_n 3, 1) := by decide +kernel
theorem dX10_behindGone_27 : decode cX10_behindGone 27 = .ok (.iconst (-1), 1) := by decide +kernel
theorem dX10_behindGone_28 : decode cX10_behindGone 28 = .ok (.if_icmp .eq 7, 3) := by decide +kernel
theorem dX10_behindGone_31 : decode cX10_behindGone 31 = .ok (.iload_n 3, 1) := by decide +kernel
theorem dX10_behindGone_32 : decode cX10_behindGone 32 = .ok (.iconst 1, 1) := by decide +kernel
theorem dX10_behindGone_33 : decode cX10_behindGone 33 = .ok (.iadd, 1) := by decide +kernel
theorem dX10_behindGone_34 : decode cX10_behindGone 34 = .ok (.ireturn, 1) := by decide +kernel
theorem dX10_behindGone_35 : decode cX10_behindGone 35 = .ok (.iinc 2 (-1), 3) := by decide +kernel
theorem dX10_behindGone_38 : decode cX10_behindGone 38 = .ok (.goto (-29), 3) := by decide +kernel
theorem dX10_behindGone_41 : decode cX10_behindGone 41 = .ok (.iconst 0, 1) := by decide +kernel
theorem dX10_behindGone_42 : decode cX10_behindGone 42 = .ok (.ireturn, 1) := by decide +kernel
theorem dX10_works_0 : decode cX10_works 0 = .ok (.aload_n 0, 1) := by decide +kernel
theorem dX10_works_1 : decode cX10_works 1 = .ok (.getfield 67, 3) := by decide +kernel
theorem dX10_works_4 : decode cX10_works 4 = .ok (.aload_n 0, 1) := by decide +kernel
theorem dX10_works_5 : decode cX10_works 5 = .ok (.getfield 265, 3) := by decide +kernel
theorem dX10_works_8 : decode cX10_works 8 = .ok (.aaload, 1) := by decide +kernel
theorem dX10_works_9 : decode cX10_works 9 = .ok (.iload_n 1, 1) := by decide +kernel
theorem dX10_works_10 : decode cX10_works 10 = .ok (.iconst (-1), 1) := by decide +kernel
theorem dX10_works_11 : decode cX10_works 11 = .ok (.iastore, 1) := by decide +kernel
theorem dX10_works_12 : decode cX10_works 12 = .ok (.aload_n 0, 1) := by decide +kernel
theorem dX10_works_13 : decode cX10_works 13 = .ok (.iload_n 1, 1) := by decide +kernel
theorem dX10_works_14 : decode cX10_works 14 = .ok (.invokevirtual 374, 3) := by decide +kernel
theorem dX10_works_17 : decode cX10_works 17 = .ok (.istore_n 2, 1) := by decide +kernel
theorem dX10_works_18 : decode cX10_works 18 = .ok (.aload_n 0, 1) := by decide +kernel
theorem dX10_works_19 : decode cX10_works 19 = .ok (.getfield 265, 3) := by decide +kernel
theorem dX10_works_22 : decode cX10_works 22 = .ok (.iconst 1, 1) := by decide +kernel
theorem dX10_works_23 : decode cX10_works 23 = .ok (.if_icmp .ne 151, 3) := by decide +kernel
theorem dX10_works_26 : decode cX10_works 26 = .ok (.iload_n 1, 1) := by decide +kernel
theorem dX10_works_27 : decode cX10_works 27 = .ok (.aload_n 0, 1) := by decide +kernel
theorem dX10_works_28 : decode cX10_works 28 = .ok (.getfield 73, 3) := by decide +kernel
theorem dX10_works_31 : decode cX10_works 31 = .ok (.if_icmp .ne 143, 3) := by decide +kernel
theorem dX10_works_34 : decode cX10_works 34 = .ok (.aload_n 0, 1) := by decide +kernel
theorem dX10_works_35 : decode cX10_works 35 = .ok (.getfield 49, 3) := by decide +kernel
theorem dX10_works_38 : decode cX10_works 38 = .ok (.iload_n 1, 1) := by decide +kernel
theorem dX10_works_39 : decode cX10_works 39 = .ok (.iaload, 1) := by decide +kernel
theorem dX10_works_40 : decode cX10_works 40 = .ok (.bipush 6, 2) := by decide +kernel
theorem dX10_works_42 : decode cX10_works 42 = .ok (.if_icmp .ne 51, 3) := by decide +kernel
theorem dX10_works_45 : decode cX10_works 45 = .ok (.aload_n 0, 1) := by decide +kernel
theorem dX10_works_46 : decode cX10_works 46 = .ok (.getfield 19, 3) := by decide +kernel
theorem dX10_works_49 : decode cX10_works 49 = .ok (.iconst 0, 1) := by decide +kernel
theorem dX10_works_50 : decode cX10_works 50 = .ok (.aaload, 1) := by decide +kernel
theorem dX10_works_51 : decode cX10_works 51 = .ok (.aload_n 0, 1) := by decide +kernel
theorem dX10_works_52 : decode cX10_works 52 = .ok (.getfield 55, 3) := by decide +kernel
theorem dX10_works_55 : decode cX10_works 55 = .ok (.iload_n 1, 1) := by decide +kernel
theorem dX10_works_56 : decode cX10_works 56 = .ok (.iaload, 1) := by decide +kernel
theorem dX10_works_57 : decode cX10_works 57 = .ok (.iconst 0, 1) := by decide +kernel
theorem dX10_works_58 : decode cX10_works 58 = .ok (.bipush 7, 2) := by decide +kernel
theorem dX10_works_60 : decode cX10_works 60 = .ok (.invokestatic 184, 3) := by decide +kernel
theorem dX10_works_63 : decode cX10_works 63 = .ok (.ifCond .eq 12, 3) := by decide +kernel
theorem dX10_works_66 : decode cX10_works 66 = .ok (.aload_n 0, 1) := by decide +kernel
theorem dX10_works_67 : decode cX10_works 67 = .ok (.getfield 55, 3) := by decide +kernel
theorem dX10_works_70 : decode cX10_works 70 = .ok (.iload_n 1, 1) := by decide +kernel
theorem dX10_works_71 : decode cX10_works 71 = .ok (.iaload, 1) := by decide +kernel
theorem dX10_works_72 : decode cX10_works 72 = .ok (.goto 4, 3) := by decide +kernel
theorem dX10_works_75 : decode cX10_works 75 = .ok (.iconst 0, 1) := by decide +kernel
theorem dX10_works_76 : decode cX10_works 76 = .ok (.iaload, 1) := by decide +kernel
theorem dX10_works_77 : decode cX10_works 77 = .ok (.ifCond .le 16, 3) := by decide +kernel
theorem dX10_works_80 : decode cX10_works 80 = .ok (.aload_n 0, 1) := by decide +kernel
theorem dX10_works_81 : decode cX10_works 81 = .ok (.getfield 293, 3) := by decide +kernel
theorem dX10_works_84 : decode cX10_works 84 = .ok (.bipush 8, 2) := by decide +kernel
theorem dX10_works_86 : decode cX10_works 86 = .ok (.if_icmp .ge 7, 3) := by decide +kernel
theorem dX10_works_89 : decode cX10_works 89 = .ok (.iconst 1, 1) := by decide +kernel
theorem dX10_works_90 : decode cX10_works 90 = .ok (.goto 4, 3) := by decide +kernel
theorem dX10_works_93 : decode cX10_works 93 = .ok (.iconst 0, 1) := by decide +kernel
theorem dX10_works_94 : decode cX10_works 94 = .ok (.istore_n 3, 1) := by decide +kernel
theorem dX10_works_95 : decode cX10_works 95 = .ok (.iload_n 2, 1) := by decide +kernel
theorem dX10_works_96 : decode cX10_works 96 = .ok (.ifCond .eq 31, 3) := by decide +kernel
theorem dX10_works_99 : decode cX10_works 99 = .ok (.iload_n 2, 1) := by decide +kernel
theorem dX10_works_100 : decode cX10_works 100 = .ok (.bipush 6, 2) := by decide +kernel
theorem dX10_works_102 : decode cX10_works 102 = .ok (.if_icmp .ne 29, 3) := by decide +kernel
theorem dX10_works_105 : decode cX10_works 105 = .ok (.iload_n 3, 1) := by decide +kernel
theorem dX10_works_106 : decode cX10_works 106 = .ok (.ifCond .ne 21, 3) := by decide +kernel
theorem dX10_works_109 : decode cX10_works 109 = .ok (.aload_n 0, 1) := by decide +kernel
theorem dX10_works_110 : decode cX10_works 110 = .ok (.getfield 49, 3) := by decide +kernel
theorem dX10_works_113 : decode cX10_works 113 = .ok (.iload_n 1, 1) := by decide +kernel
theorem dX10_works_114 : decode cX10_works 114 = .ok (.iaload, 1) := by decide +kernel
theorem dX10_works_115 : decode cX10_works 115 = .ok (.iconst 5, 1) := by decide +kernel
theorem dX10_works_116 : decode cX10_works 116 = .ok (.if_icmp .ne 15, 3) := by decide +kernel
theorem dX10_works_119 : decode cX10_works 119 = .ok (.aload_n 0, 1) := by decide +kernel
theorem dX10_works_120 : decode cX10_works 120 = .ok (.getfield 271, 3) := by decide +kernel
theorem dX10_works_123 : decode cX10_works 123 = .ok (.iconst (-1), 1) := by decide +kernel
theorem dX10_works_124 : decode cX10_works 124 = .ok (.if_icmp .eq 7, 3) := by decide +kernel
theorem dX10_works_127 : decode cX10_works 127 = .ok (.iconst 1, 1) := by decide +kernel
theorem dX10_works_128 : decode cX10_works 128 = .ok (.goto 4, 3) := by decide +kernel
theorem dX10_works_131 : decode cX10_works 131 = .ok (.iconst 0, 1) := by decide +kernel
theorem dX10_works_132 : decode cX10_works 132 = .ok (.istore 4, 2) := by decide +kernel
theorem dX10_works_134 : decode cX10_works 134 = .ok (.aload_n 0, 1) := by decide +kernel
theorem dX10_works_135 : decode cX10_works 135 = .ok (.aload_n 0, 1) := by decide +kernel
theorem dX10_works_136 : decode cX10_works 136 = .ok (.getfield 377, 3) := by decide +kernel
theorem dX10_works_139 : decode cX10_works 139 = .ok (.ifCond .ne 8, 3) := by decide +kernel
theorem dX10_works_142 : decode cX10_works 142 = .ok (.iload 4, 2) := by decide +kernel
theorem dX10_works_144 : decode cX10_works 144 = .ok (.ifCond .ne 7, 3) := by decide +kernel
theorem dX10_works_147 : decode cX10_works 147 = .ok (.iconst 1, 1) := by decide +kernel
theorem dX10_works_148 : decode cX10_works 148 = .ok (.goto 4, 3) := by decide +kernel
theorem dX10_works_151 : decode cX10_works 151 = .ok (.iconst 0, 1) := by decide +kernel
theorem dX10_works_152 : decode cX10_works 152 = .ok (.putfield 377, 3) := by decide +kernel
theorem dX10_works_155 : decode cX10_works 155 = .ok (.iload_n 2, 1) := by decide +kernel
theorem dX10_works_156 : decode cX10_works 156 = .ok (.ifCond .ne 8, 3) := by decide +kernel
theorem dX10_works_159 : decode cX10_works 159 = .ok (.bipush 6, 2) := by decide +kernel
theorem dX10_works_161 : decode cX10_works 161 = .ok (.goto 4, 3) := by decide +kernel
theorem dX10_works_164 : decode cX10_works 164 = .ok (.iconst 0, 1) := by decide +kernel
theorem dX10_works_165 : decode cX10_works 165 = .ok (.istore_n 2, 1) := by decide +kernel
theorem dX10_works_166 : decode cX10_works 166 = .ok (.iload 4, 2) := by decide +kernel
theorem dX10_works_168 : decode cX10_works 168 = .ok (.ifCond .ne 6, 3) := by decide +kernel
theorem dX10_works_171 : decode cX10_works 171 = .ok (.bipush 6, 2) := by decide +kernel
theorem dX10_works_173 : decode cX10_works 173 = .ok (.istore_n 2, 1) := by decide +kernel
theorem dX10_works_174 : decode cX10_works 174 = .ok (.aload_n 0, 1) := by decide +kernel
theorem dX10_works_175 : decode cX10_works 175 = .ok (.getfield 64, 3) := by decide +kernel
theorem dX10_works_178 : decode cX10_works 178 = .ok (.aload_n 0, 1) := by decide +kernel
theorem dX10_works_179 : decode cX10_works 179 = .ok (.getfield 265, 3) := by decide +kernel
theorem dX10_works_182 : decode cX10_works 182 = .ok (.aaload, 1) := by decide +kernel
theorem dX10_works_183 : decode cX10_works 183 = .ok (.iload_n 1, 1) := by decide +kernel
theorem dX10_works_184 : decode cX10_works 184 = .ok (.iload_n 2, 1) := by decide +kernel
theorem dX10_works_185 : decode cX10_works 185 = .ok (.iastore, 1) := by decide +kernel
theorem dX10_works_186 : decode cX10_works 186 = .ok (.iload_n 2, 1) := by decide +kernel
theorem dX10_works_187 : decode cX10_works 187 = .ok (.ifCond .ne 8, 3) := by decide +kernel
theorem dX10_works_190 : decode cX10_works 190 = .ok (.aload_n 0, 1) := by decide +kernel
theorem dX10_works_191 : decode cX10_works 191 = .ok (.iload_n 1, 1) := by decide +kernel
theorem dX10_works_192 : decode cX10_works 192 = .ok (.invokevirtual 380, 3) := by decide +kernel
theorem dX10_works_195 : decode cX10_works 195 = .ok (.return_, 1) := by decide +kernel
theorem dX10_act_0 : decode cX10_act 0 = .ok (.iload_n 1, 1) := by decide +kernel
theorem dX10_act_1 : decode cX10_act 1 = .ok (.iconst 0, 1) := by decide +kernel
theorem dX10_act_2 : decode cX10_act 2 = .ok (.bipush 9, 2) := by decide +kernel
theorem dX10_act_4 : decode cX10_act 4 = .ok (.invokestatic 184, 3) := by decide +kernel
theorem dX10_act_7 : decode cX10_act 7 = .ok (.ifCond .eq 13, 3) := by decide +kernel
theorem dX10_act_10 : decode cX10_act 10 = .ok (.aload_n 0, 1) := by decide +kernel
theorem dX10_act_11 : decode cX10_act 11 = .ok (.getfield 259, 3) := by decide +kernel
theorem dX10_act_14 : decode cX10_act 14 = .ok (.sipush 300, 3) := by decide +kernel
theorem dX10_act_17 : decode cX10_act 17 = .ok (.if_icmp .ne 5, 3) := by decide +kernel
theorem dX10_act_20 : decode cX10_act 20 = .ok (.iconst (-1), 1) := by decide +kernel
theorem dX10_act_21 : decode cX10_act 21 = .ok (.ireturn, 1) := by decide +kernel
theorem dX10_act_22 : decode cX10_act 22 = .ok (.aload_n 0, 1) := by decide +kernel
theorem dX10_act_23 : decode cX10_act 23 = .ok (.getfield 49, 3) := by decide +kernel
theorem dX10_act_26 : decode cX10_act 26 = .ok (.aload_n 0, 1) := by decide +kernel
theorem dX10_act_27 : decode cX10_act 27 = .ok (.getfield 259, 3) := by decide +kernel
theorem dX10_act_30 : decode cX10_act 30 = .ok (.iload_n 1, 1) := by decide +kernel
theorem dX10_act_31 : decode cX10_act 31 = .ok (.iastore, 1) := by decide +kernel
theorem dX10_act_32 : decode cX10_act 32 = .ok (.aload_n 0, 1) := by decide +kernel
theorem dX10_act_33 : decode cX10_act 33 = .ok (.getfield 52, 3) := by decide +kernel
theorem dX10_act_36 : decode cX10_act 36 = .ok (.aload_n 0, 1) := by decide +kernel
theorem dX10_act_37 : decode cX10_act 37 = .ok (.getfield 259, 3) := by decide +kernel
theorem dX10_act_40 : decode cX10_act 40 = .ok (.iload_n 2, 1) := by decide +kernel
theorem dX10_act_41 : decode cX10_act 41 = .ok (.iastore, 1) := by decide +kernel
theorem dX10_act_42 : decode cX10_act 42 = .ok (.aload_n 0, 1) := by decide +kernel
theorem dX10_act_43 : decode cX10_act 43 = .ok (.getfield 55, 3) := by decide +kernel
theorem dX10_act_46 : decode cX10_act 46 = .ok (.aload_n 0, 1) := by decide +kernel
theorem dX10_act_47 : decode cX10_act 47 = .ok (.getfield 259, 3) := by decide +kernel
theorem dX10_act_50 : decode cX10_act 50 = .ok (.iload_n 3, 1) := by decide +kernel
theorem dX10_act_51 : decode cX10_act 51 = .ok (.iastore, 1) := by decide +kernel
theorem dX10_act_52 : decode cX10_act 52 = .ok (.aload_n 0, 1) := by decide +kernel
theorem dX10_act_53 : decode cX10_act 53 = .ok (.getfield 58, 3) := by decide +kernel
theorem dX10_act_56 : decode cX10_act 56 = .ok (.aload_n 0, 1) := by decide +kernel
theorem dX10_act_57 : decode cX10_act 57 = .ok (.getfield 259, 3) := by decide +kernel
theorem dX10_act_60 : decode cX10_act 60 = .ok (.iload 4, 2) := by decide +kernel
theorem dX10_act_62 : decode cX10_act 62 = .ok (.iastore, 1) := by decide +kernel
theorem dX10_act_63 : decode cX10_act 63 = .ok (.aload_n 0, 1) := by decide +kernel
theorem dX10_act_64 : decode cX10_act 64 = .ok (.getfield 61, 3) := by decide +kernel
theorem dX10_act_67 : decode cX10_act 67 = .ok (.aload_n 0, 1) := by decide +kernel
theorem dX10_act_68 : decode cX10_act 68 = .ok (.getfield 259, 3) := by decide +kernel
theorem dX10_act_71 : decode cX10_act 71 = .ok (.iload 5, 2) := by decide +kernel
theorem dX10_act_73 : decode cX10_act 73 = .ok (.iastore, 1) := by decide +kernel
theorem dX10_act_74 : decode cX10_act 74 = .ok (.aload_n 0, 1) := by decide +kernel
theorem dX10_act_75 : decode cX10_act 75 = .ok (.dup, 1) := by decide +kernel
theorem dX10_act_76 : decode cX10_act 76 = .ok (.getfield 259, 3) := by decide +kernel
theorem dX10_act_79 : decode cX10_act 79 = .ok (.iconst 1, 1) := by decide +kernel
theorem dX10_act_80 : decode cX10_act 80 = .ok (.iadd, 1) := by decide +kernel
theorem dX10_act_81 : decode cX10_act 81 = .ok (.putfield 259, 3) := by decide +kernel
theorem dX10_act_84 : decode cX10_act 84 = .ok (.aload_n 0, 1) := by decide +kernel
theorem dX10_act_85 : decode cX10_act 85 = .ok (.aload_n 0, 1) := by decide +kernel
theorem dX10_act_86 : decode cX10_act 86 = .ok (.getfield 259, 3) := by decide +kernel
theorem dX10_act_89 : decode cX10_act 89 = .ok (.iconst 1, 1) := by decide +kernel
theorem dX10_act_90 : decode cX10_act 90 = .ok (.isub, 1) := by decide +kernel
theorem dX10_act_91 : decode cX10_act 91 = .ok (.invokevirtual 383, 3) := by decide +kernel
theorem dX10_act_94 : decode cX10_act 94 = .ok (.aload_n 0, 1) := by decide +kernel
theorem dX10_act_95 : decode cX10_act 95 = .ok (.getfield 64, 3) := by decide +kernel
theorem dX10_act_98 : decode cX10_act 98 = .ok (.iconst 0, 1) := by decide +kernel
theorem dX10_act_99 : decode cX10_act 99 = .ok (.aaload, 1) := by decide +kernel
theorem dX10_act_100 : decode cX10_act 100 = .ok (.aload_n 0, 1) := by decide +kernel
theorem dX10_act_101 : decode cX10_act 101 = .ok (.getfield 259, 3) := by decide +kernel
theorem dX10_act_104 : decode cX10_act 104 = .ok (.iconst 1, 1) := by decide +kernel
theorem dX10_act_105 : decode cX10_act 105 = .ok (.isub, 1) := by decide +kernel
theorem dX10_act_106 : decode cX10_act 106 = .ok (.iaload, 1) := by decide +kernel
theorem dX10_act_107 : decode cX10_act 107 = .ok (.ireturn, 1) := by decide +kernel
theorem dX10_again_0 : decode cX10_again 0 = .ok (.aload_n 0, 1) := by decide +kernel
theorem dX10_again_1 : decode cX10_again 1 = .ok (.iload_n 1, 1) := by decide +kernel
theorem dX10_again_2 : decode cX10_again 2 = .ok (.putfield 265, 3) := by decide +kernel
theorem dX10_again_5 : decode cX10_again 5 = .ok (.aload_n 0, 1) := by decide +kernel
theorem dX10_again_6 : decode cX10_again 6 = .ok (.iload_n 2, 1) := by decide +kernel
theorem dX10_again_7 : decode cX10_again 7 = .ok (.putfield 73, 3) := by decide +kernel
theorem dX10_again_10 : decode cX10_again 10 = .ok (.aload_n 0, 1) := by decide +kernel
theorem dX10_again_11 : decode cX10_again 11 = .ok (.iconst 0, 1) := by decide +kernel
theorem dX10_again_12 : decode cX10_again 12 = .ok (.putfield 377, 3) := by decide +kernel
theorem dX10_again_15 : decode cX10_again 15 = .ok (.aload_n 0, 1) := by decide +kernel
theorem dX10_again_16 : decode cX10_again 16 = .ok (.invokevirtual 140, 3) := by decide +kernel
theorem dX10_again_19 : decode cX10_again 19 = .ok (.iconst 0, 1) := by decide +kernel
theorem dX10_again_20 : decode cX10_again 20 = .ok (.istore_n 3, 1) := by decide +kernel
theorem dX10_again_21 : decode cX10_again 21 = .ok (.iload_n 3, 1) := by decide +kernel
theorem dX10_again_22 : decode cX10_again 22 = .ok (.aload_n 0, 1) := by decide +kernel
theorem dX10_again_23 : decode cX10_again 23 = .ok (.getfield 259, 3) := by decide +kernel
theorem dX10_again_26 : decode cX10_again 26 = .ok (.if_icmp .ge 14, 3) := by decide +kernel
theorem dX10_again_29 : decode cX10_again 29 = .ok (.aload_n 0, 1) := by decide +kernel
theorem dX10_again_30 : decode cX10_again 30 = .ok (.iload_n 3, 1) := by decide +kernel
theorem dX10_again_31 : decode cX10_again 31 = .ok (.invokevirtual 383, 3) := by decide +kernel
theorem dX10_again_34 : decode cX10_again 34 = .ok (.iinc 3 1, 3) := by decide +kernel
theorem dX10_again_37 : decode cX10_again 37 = .ok (.goto (-16), 3) := by decide +kernel
theorem dX10_again_40 : decode cX10_again 40 = .ok (.return_, 1) := by decide +kernel
theorem dX10_beside_0 : decode cX10_beside 0 = .ok (.iload_n 1, 1) := by decide +kernel
theorem dX10_beside_1 : decode cX10_beside 1 = .ok (.iconst 0, 1) := by decide +kernel
theorem dX10_beside_2 : decode cX10_beside 2 = .ok (.aload_n 0, 1) := by decide +kernel
theorem dX10_beside_3 : decode cX10_beside 3 = .ok (.getfield 259, 3) := by decide +kernel
theorem dX10_beside_6 : decode cX10_beside 6 = .ok (.iconst 1, 1) := by decide +kernel
theorem dX10_beside_7 : decode cX10_beside 7 = .ok (.isub, 1) := by decide +kernel
theorem dX10_beside_8 : decode cX10_beside 8 = .ok (.invokestatic 184, 3) := by decide +kernel
theorem dX10_beside_11 : decode cX10_beside 11 = .ok (.ifCond .ne 5, 3) := by decide +kernel
theorem dX10_beside_14 : decode cX10_beside 14 = .ok (.iconst (-1), 1) := by decide +kernel
theorem dX10_beside_15 : decode cX10_beside 15 = .ok (.ireturn, 1) := by decide +kernel
theorem dX10_beside_16 : decode cX10_beside 16 = .ok (.aload_n 0, 1) := by decide +kernel
theorem dX10_beside_17 : decode cX10_beside 17 = .ok (.iconst 1, 1) := by decide +kernel
theorem dX10_beside_18 : decode cX10_beside 18 = .ok (.iload_n 1, 1) := by decide +kernel
theorem dX10_beside_19 : decode cX10_beside 19 = .ok (.invokevirtual 386, 3) := by decide +kernel
theorem dX10_beside_22 : decode cX10_beside 22 = .ok (.aload_n 0, 1) := by decide +kernel
theorem dX10_beside_23 : decode cX10_beside 23 = .ok (.getfield 377, 3) := by decide +kernel
theorem dX10_beside_26 : decode cX10_beside 26 = .ok (.ifCond .eq 7, 3) := by decide +kernel
theorem dX10_beside_29 : decode cX10_beside 29 = .ok (.iconst (-1), 1) := by decide +kernel
theorem dX10_beside_30 : decode cX10_beside 30 = .ok (.goto 83, 3) := by decide +kernel
theorem dX10_beside_33 : decode cX10_beside 33 = .ok (.iload_n 2, 1) := by decide +kernel
theorem dX10_beside_34 : decode cX10_beside 34 = .ok (.iconst 0, 1) := by decide +kernel
theorem dX10_beside_35 : decode cX10_beside 35 = .ok (.bipush 10, 2) := by decide +kernel
theorem dX10_beside_37 : decode cX10_beside 37 = .ok (.invokestatic 184, 3) := by decide +kernel
theorem dX10_beside_40 : decode cX10_beside 40 = .ok (.ifCond .eq 11, 3) := by decide +kernel
theorem dX10_beside_43 : decode cX10_beside 43 = .ok (.aload_n 0, 1) := by decide +kernel
end
section
theorem dX10_beside_44 : decode cX10_beside 44 = .ok (.iload_n 2, 1) := by decide +kernel
theorem dX10_beside_45 : decode cX10_beside 45 = .ok (.invokevirtual 389, 3) := by decide +kernel
theorem dX10_beside_48 : decode cX10_beside 48 = .ok (.goto 65, 3) := by decide +kernel
theorem dX10_beside_51 : decode cX10_beside 51 = .ok (.iload_n 2, 1) := by decide +kernel
theorem dX10_beside_52 : decode cX10_beside 52 = .ok (.bipush 11, 2) := by decide +kernel
theorem dX10_beside_54 : decode cX10_beside 54 = .ok (.bipush 10, 2) := by decide +kernel
theorem dX10_beside_56 : decode cX10_beside 56 = .ok (.aload_n 0, 1) := by decide +kernel
theorem dX10_beside_57 : decode cX10_beside 57 = .ok (.getfield 259, 3) := by decide +kernel
theorem dX10_beside_60 : decode cX10_beside 60 = .ok (.iadd, 1) := by decide +kernel
theorem dX10_beside_61 : decode cX10_beside 61 = .ok (.invokestatic 184, 3) := by decide +kernel
theorem dX10_beside_64 : decode cX10_beside 64 = .ok (.ifCond .eq 17, 3) := by decide +kernel
theorem dX10_beside_67 : decode cX10_beside 67 = .ok (.aload_n 0, 1) := by decide +kernel
theorem dX10_beside_68 : decode cX10_beside 68 = .ok (.getfield 64, 3) := by decide +kernel
theorem dX10_beside_71 : decode cX10_beside 71 = .ok (.iconst 1, 1) := by decide +kernel
theorem dX10_beside_72 : decode cX10_beside 72 = .ok (.aaload, 1) := by decide +kernel
theorem dX10_beside_73 : decode cX10_beside 73 = .ok (.iload_n 2, 1) := by decide +kernel
theorem dX10_beside_74 : decode cX10_beside 74 = .ok (.bipush 11, 2) := by decide +kernel
theorem dX10_beside_76 : decode cX10_beside 76 = .ok (.isub, 1) := by decide +kernel
theorem dX10_beside_77 : decode cX10_beside 77 = .ok (.iaload, 1) := by decide +kernel
theorem dX10_beside_78 : decode cX10_beside 78 = .ok (.goto 35, 3) := by decide +kernel
theorem dX10_beside_81 : decode cX10_beside 81 = .ok (.iload_n 2, 1) := by decide +kernel
theorem dX10_beside_82 : decode cX10_beside 82 = .ok (.sipush 400, 3) := by decide +kernel
theorem dX10_beside_85 : decode cX10_beside 85 = .ok (.sipush 399, 3) := by decide +kernel
theorem dX10_beside_88 : decode cX10_beside 88 = .ok (.aload_n 0, 1) := by decide +kernel
theorem dX10_beside_89 : decode cX10_beside 89 = .ok (.getfield 299, 3) := by decide +kernel
theorem dX10_beside_92 : decode cX10_beside 92 = .ok (.iadd, 1) := by decide +kernel
theorem dX10_beside_93 : decode cX10_beside 93 = .ok (.invokestatic 184, 3) := by decide +kernel
theorem dX10_beside_96 : decode cX10_beside 96 = .ok (.ifCond .eq 16, 3) := by decide +kernel
theorem dX10_beside_99 : decode cX10_beside 99 = .ok (.aload_n 0, 1) := by decide +kernel
theorem dX10_beside_100 : decode cX10_beside 100 = .ok (.getfield 113, 3) := by decide +kernel
theorem dX10_beside_103 : decode cX10_beside 103 = .ok (.iload_n 2, 1) := by decide +kernel
theorem dX10_beside_104 : decode cX10_beside 104 = .ok (.sipush 400, 3) := by decide +kernel
theorem dX10_beside_107 : decode cX10_beside 107 = .ok (.isub, 1) := by decide +kernel
theorem dX10_beside_108 : decode cX10_beside 108 = .ok (.iaload, 1) := by decide +kernel
theorem dX10_beside_109 : decode cX10_beside 109 = .ok (.goto 4, 3) := by decide +kernel
theorem dX10_beside_112 : decode cX10_beside 112 = .ok (.iconst (-1), 1) := by decide +kernel
theorem dX10_beside_113 : decode cX10_beside 113 = .ok (.istore_n 3, 1) := by decide +kernel
theorem dX10_beside_114 : decode cX10_beside 114 = .ok (.aload_n 0, 1) := by decide +kernel
theorem dX10_beside_115 : decode cX10_beside 115 = .ok (.iconst 0, 1) := by decide +kernel
theorem dX10_beside_116 : decode cX10_beside 116 = .ok (.iconst (-1), 1) := by decide +kernel
theorem dX10_beside_117 : decode cX10_beside 117 = .ok (.invokevirtual 386, 3) := by decide +kernel
theorem dX10_beside_120 : decode cX10_beside 120 = .ok (.iload_n 3, 1) := by decide +kernel
theorem dX10_beside_121 : decode cX10_beside 121 = .ok (.ireturn, 1) := by decide +kernel
theorem dX10_ruling_0 : decode cX10_ruling 0 = .ok (.iload_n 1, 1) := by decide +kernel
theorem dX10_ruling_1 : decode cX10_ruling 1 = .ok (.iconst 0, 1) := by decide +kernel
theorem dX10_ruling_2 : decode cX10_ruling 2 = .ok (.aload_n 0, 1) := by decide +kernel
theorem dX10_ruling_3 : decode cX10_ruling 3 = .ok (.getfield 259, 3) := by decide +kernel
theorem dX10_ruling_6 : decode cX10_ruling 6 = .ok (.iconst 1, 1) := by decide +kernel
theorem dX10_ruling_7 : decode cX10_ruling 7 = .ok (.isub, 1) := by decide +kernel
theorem dX10_ruling_8 : decode cX10_ruling 8 = .ok (.invokestatic 184, 3) := by decide +kernel
theorem dX10_ruling_11 : decode cX10_ruling 11 = .ok (.ifCond .eq 14, 3) := by decide +kernel
theorem dX10_ruling_14 : decode cX10_ruling 14 = .ok (.aload_n 0, 1) := by decide +kernel
theorem dX10_ruling_15 : decode cX10_ruling 15 = .ok (.getfield 64, 3) := by decide +kernel
theorem dX10_ruling_18 : decode cX10_ruling 18 = .ok (.iconst 0, 1) := by decide +kernel
theorem dX10_ruling_19 : decode cX10_ruling 19 = .ok (.aaload, 1) := by decide +kernel
theorem dX10_ruling_20 : decode cX10_ruling 20 = .ok (.iload_n 1, 1) := by decide +kernel
theorem dX10_ruling_21 : decode cX10_ruling 21 = .ok (.iaload, 1) := by decide +kernel
theorem dX10_ruling_22 : decode cX10_ruling 22 = .ok (.goto 4, 3) := by decide +kernel
theorem dX10_ruling_25 : decode cX10_ruling 25 = .ok (.iconst (-1), 1) := by decide +kernel
theorem dX10_ruling_26 : decode cX10_ruling 26 = .ok (.ireturn, 1) := by decide +kernel
theorem dX10_passed_0 : decode cX10_passed 0 = .ok (.iload_n 1, 1) := by decide +kernel
theorem dX10_passed_1 : decode cX10_passed 1 = .ok (.iconst 0, 1) := by decide +kernel
theorem dX10_passed_2 : decode cX10_passed 2 = .ok (.aload_n 0, 1) := by decide +kernel
theorem dX10_passed_3 : decode cX10_passed 3 = .ok (.getfield 259, 3) := by decide +kernel
theorem dX10_passed_6 : decode cX10_passed 6 = .ok (.iconst 1, 1) := by decide +kernel
theorem dX10_passed_7 : decode cX10_passed 7 = .ok (.isub, 1) := by decide +kernel
theorem dX10_passed_8 : decode cX10_passed 8 = .ok (.invokestatic 184, 3) := by decide +kernel
theorem dX10_passed_11 : decode cX10_passed 11 = .ok (.ifCond .eq 14, 3) := by decide +kernel
theorem dX10_passed_14 : decode cX10_passed 14 = .ok (.aload_n 0, 1) := by decide +kernel
theorem dX10_passed_15 : decode cX10_passed 15 = .ok (.getfield 67, 3) := by decide +kernel
theorem dX10_passed_18 : decode cX10_passed 18 = .ok (.iconst 0, 1) := by decide +kernel
theorem dX10_passed_19 : decode cX10_passed 19 = .ok (.aaload, 1) := by decide +kernel
theorem dX10_passed_20 : decode cX10_passed 20 = .ok (.iload_n 1, 1) := by decide +kernel
theorem dX10_passed_21 : decode cX10_passed 21 = .ok (.iaload, 1) := by decide +kernel
theorem dX10_passed_22 : decode cX10_passed 22 = .ok (.goto 4, 3) := by decide +kernel
theorem dX10_passed_25 : decode cX10_passed 25 = .ok (.iconst (-1), 1) := by decide +kernel
theorem dX10_passed_26 : decode cX10_passed 26 = .ok (.ireturn, 1) := by decide +kernel
theorem dX10_state_0 : decode cX10_state 0 = .ok (.iload_n 1, 1) := by decide +kernel
theorem dX10_state_1 : decode cX10_state 1 = .ok (.tableswitch 133 0 10 #[59, 64, 69, 74, 79, 84, 89, 94, 107, 123, 128], 59) := by decide +kernel
theorem dX10_state_60 : decode cX10_state 60 = .ok (.aload_n 0, 1) := by decide +kernel
theorem dX10_state_61 : decode cX10_state 61 = .ok (.invokevirtual 313, 3) := by decide +kernel
theorem dX10_state_64 : decode cX10_state 64 = .ok (.ireturn, 1) := by decide +kernel
theorem dX10_state_65 : decode cX10_state 65 = .ok (.aload_n 0, 1) := by decide +kernel
theorem dX10_state_66 : decode cX10_state 66 = .ok (.getfield 268, 3) := by decide +kernel
theorem dX10_state_69 : decode cX10_state 69 = .ok (.ireturn, 1) := by decide +kernel
theorem dX10_state_70 : decode cX10_state 70 = .ok (.aload_n 0, 1) := by decide +kernel
theorem dX10_state_71 : decode cX10_state 71 = .ok (.getfield 271, 3) := by decide +kernel
theorem dX10_state_74 : decode cX10_state 74 = .ok (.ireturn, 1) := by decide +kernel
theorem dX10_state_75 : decode cX10_state 75 = .ok (.aload_n 0, 1) := by decide +kernel
theorem dX10_state_76 : decode cX10_state 76 = .ok (.getfield 274, 3) := by decide +kernel
theorem dX10_state_79 : decode cX10_state 79 = .ok (.ireturn, 1) := by decide +kernel
theorem dX10_state_80 : decode cX10_state 80 = .ok (.aload_n 0, 1) := by decide +kernel
theorem dX10_state_81 : decode cX10_state 81 = .ok (.getfield 277, 3) := by decide +kernel
theorem dX10_state_84 : decode cX10_state 84 = .ok (.ireturn, 1) := by decide +kernel
theorem dX10_state_85 : decode cX10_state 85 = .ok (.aload_n 0, 1) := by decide +kernel
theorem dX10_state_86 : decode cX10_state 86 = .ok (.getfield 293, 3) := by decide +kernel
theorem dX10_state_89 : decode cX10_state 89 = .ok (.ireturn, 1) := by decide +kernel
theorem dX10_state_90 : decode cX10_state 90 = .ok (.aload_n 0, 1) := by decide +kernel
theorem dX10_state_91 : decode cX10_state 91 = .ok (.getfield 283, 3) := by decide +kernel
theorem dX10_state_94 : decode cX10_state 94 = .ok (.ireturn, 1) := by decide +kernel
theorem dX10_state_95 : decode cX10_state 95 = .ok (.aload_n 0, 1) := by decide +kernel
theorem dX10_state_96 : decode cX10_state 96 = .ok (.getfield 290, 3) := by decide +kernel
theorem dX10_state_99 : decode cX10_state 99 = .ok (.ifCond .eq 7, 3) := by decide +kernel
theorem dX10_state_102 : decode cX10_state 102 = .ok (.iconst 1, 1) := by decide +kernel
theorem dX10_state_103 : decode cX10_state 103 = .ok (.goto 4, 3) := by decide +kernel
theorem dX10_state_106 : decode cX10_state 106 = .ok (.iconst 0, 1) := by decide +kernel
theorem dX10_state_107 : decode cX10_state 107 = .ok (.ireturn, 1) := by decide +kernel
theorem dX10_state_108 : decode cX10_state 108 = .ok (.aload_n 0, 1) := by decide +kernel
theorem dX10_state_109 : decode cX10_state 109 = .ok (.getfield 296, 3) := by decide +kernel
theorem dX10_state_112 : decode cX10_state 112 = .ok (.ifCond .eq 10, 3) := by decide +kernel
theorem dX10_state_115 : decode cX10_state 115 = .ok (.aload_n 0, 1) := by decide +kernel
theorem dX10_state_116 : decode cX10_state 116 = .ok (.getfield 299, 3) := by decide +kernel
theorem dX10_state_119 : decode cX10_state 119 = .ok (.goto 4, 3) := by decide +kernel
theorem dX10_state_122 : decode cX10_state 122 = .ok (.iconst (-1), 1) := by decide +kernel
theorem dX10_state_123 : decode cX10_state 123 = .ok (.ireturn, 1) := by decide +kernel
theorem dX10_state_124 : decode cX10_state 124 = .ok (.aload_n 0, 1) := by decide +kernel
theorem dX10_state_125 : decode cX10_state 125 = .ok (.getfield 280, 3) := by decide +kernel
theorem dX10_state_128 : decode cX10_state 128 = .ok (.ireturn, 1) := by decide +kernel
theorem dX10_state_129 : decode cX10_state 129 = .ok (.aload_n 0, 1) := by decide +kernel
theorem dX10_state_130 : decode cX10_state 130 = .ok (.getfield 259, 3) := by decide +kernel
theorem dX10_state_133 : decode cX10_state 133 = .ok (.ireturn, 1) := by decide +kernel
theorem dX10_state_134 : decode cX10_state 134 = .ok (.iconst (-1), 1) := by decide +kernel
theorem dX10_state_135 : decode cX10_state 135 = .ok (.ireturn, 1) := by decide +kernel
theorem dX10_pending_0 : decode cX10_pending 0 = .ok (.iload_n 1, 1) := by decide +kernel
theorem dX10_pending_1 : decode cX10_pending 1 = .ok (.iconst 0, 1) := by decide +kernel
theorem dX10_pending_2 : decode cX10_pending 2 = .ok (.aload_n 0, 1) := by decide +kernel
theorem dX10_pending_3 : decode cX10_pending 3 = .ok (.getfield 293, 3) := by decide +kernel
theorem dX10_pending_6 : decode cX10_pending 6 = .ok (.iconst 1, 1) := by decide +kernel
theorem dX10_pending_7 : decode cX10_pending 7 = .ok (.isub, 1) := by decide +kernel
theorem dX10_pending_8 : decode cX10_pending 8 = .ok (.invokestatic 184, 3) := by decide +kernel
theorem dX10_pending_11 : decode cX10_pending 11 = .ok (.ifCond .ne 5, 3) := by decide +kernel
theorem dX10_pending_14 : decode cX10_pending 14 = .ok (.iconst (-1), 1) := by decide +kernel
theorem dX10_pending_15 : decode cX10_pending 15 = .ok (.ireturn, 1) := by decide +kernel
theorem dX10_pending_16 : decode cX10_pending 16 = .ok (.iload_n 2, 1) := by decide +kernel
theorem dX10_pending_17 : decode cX10_pending 17 = .ok (.tableswitch 97 0 5 #[39, 46, 53, 60, 67, 82], 39) := by decide +kernel
theorem dX10_pending_56 : decode cX10_pending 56 = .ok (.aload_n 0, 1) := by decide +kernel
theorem dX10_pending_57 : decode cX10_pending 57 = .ok (.getfield 86, 3) := by decide +kernel
theorem dX10_pending_60 : decode cX10_pending 60 = .ok (.iload_n 1, 1) := by decide +kernel
theorem dX10_pending_61 : decode cX10_pending 61 = .ok (.iaload, 1) := by decide +kernel
theorem dX10_pending_62 : decode cX10_pending 62 = .ok (.ireturn, 1) := by decide +kernel
theorem dX10_pending_63 : decode cX10_pending 63 = .ok (.aload_n 0, 1) := by decide +kernel
theorem dX10_pending_64 : decode cX10_pending 64 = .ok (.getfield 89, 3) := by decide +kernel
theorem dX10_pending_67 : decode cX10_pending 67 = .ok (.iload_n 1, 1) := by decide +kernel
theorem dX10_pending_68 : decode cX10_pending 68 = .ok (.iaload, 1) := by decide +kernel
theorem dX10_pending_69 : decode cX10_pending 69 = .ok (.ireturn, 1) := by decide +kernel
theorem dX10_pending_70 : decode cX10_pending 70 = .ok (.aload_n 0, 1) := by decide +kernel
theorem dX10_pending_71 : decode cX10_pending 71 = .ok (.getfield 92, 3) := by decide +kernel
theorem dX10_pending_74 : decode cX10_pending 74 = .ok (.iload_n 1, 1) := by decide +kernel
theorem dX10_pending_75 : decode cX10_pending 75 = .ok (.iaload, 1) := by decide +kernel
theorem dX10_pending_76 : decode cX10_pending 76 = .ok (.ireturn, 1) := by decide +kernel
theorem dX10_pending_77 : decode cX10_pending 77 = .ok (.aload_n 0, 1) := by decide +kernel
theorem dX10_pending_78 : decode cX10_pending 78 = .ok (.getfield 95, 3) := by decide +kernel
theorem dX10_pending_81 : decode cX10_pending 81 = .ok (.iload_n 1, 1) := by decide +kernel
theorem dX10_pending_82 : decode cX10_pending 82 = .ok (.iaload, 1) := by decide +kernel
theorem dX10_pending_83 : decode cX10_pending 83 = .ok (.ireturn, 1) := by decide +kernel
theorem dX10_pending_84 : decode cX10_pending 84 = .ok (.aload_n 0, 1) := by decide +kernel
theorem dX10_pending_85 : decode cX10_pending 85 = .ok (.getfield 101, 3) := by decide +kernel
theorem dX10_pending_88 : decode cX10_pending 88 = .ok (.iload_n 1, 1) := by decide +kernel
theorem dX10_pending_89 : decode cX10_pending 89 = .ok (.baload, 1) := by decide +kernel
theorem dX10_pending_90 : decode cX10_pending 90 = .ok (.ifCond .eq 7, 3) := by decide +kernel
theorem dX10_pending_93 : decode cX10_pending 93 = .ok (.iconst 1, 1) := by decide +kernel
theorem dX10_pending_94 : decode cX10_pending 94 = .ok (.goto 4, 3) := by decide +kernel
theorem dX10_pending_97 : decode cX10_pending 97 = .ok (.iconst 0, 1) := by decide +kernel
theorem dX10_pending_98 : decode cX10_pending 98 = .ok (.ireturn, 1) := by decide +kernel
theorem dX10_pending_99 : decode cX10_pending 99 = .ok (.aload_n 0, 1) := by decide +kernel
theorem dX10_pending_100 : decode cX10_pending 100 = .ok (.getfield 104, 3) := by decide +kernel
theorem dX10_pending_103 : decode cX10_pending 103 = .ok (.iload_n 1, 1) := by decide +kernel
theorem dX10_pending_104 : decode cX10_pending 104 = .ok (.baload, 1) := by decide +kernel
theorem dX10_pending_105 : decode cX10_pending 105 = .ok (.ifCond .eq 7, 3) := by decide +kernel
theorem dX10_pending_108 : decode cX10_pending 108 = .ok (.iconst 1, 1) := by decide +kernel
theorem dX10_pending_109 : decode cX10_pending 109 = .ok (.goto 4, 3) := by decide +kernel
theorem dX10_pending_112 : decode cX10_pending 112 = .ok (.iconst 0, 1) := by decide +kernel
theorem dX10_pending_113 : decode cX10_pending 113 = .ok (.ireturn, 1) := by decide +kernel
theorem dX10_pending_114 : decode cX10_pending 114 = .ok (.iconst (-1), 1) := by decide +kernel
theorem dX10_pending_115 : decode cX10_pending 115 = .ok (.ireturn, 1) := by decide +kernel
theorem dX10_clause__0 : decode cX10_clause_ 0 = .ok (.aload_n 0, 1) := by decide +kernel
theorem dX10_clause__1 : decode cX10_clause_ 1 = .ok (.getfield 296, 3) := by decide +kernel
theorem dX10_clause__4 : decode cX10_clause_ 4 = .ok (.ifCond .eq 17, 3) := by decide +kernel
theorem dX10_clause__7 : decode cX10_clause_ 7 = .ok (.iload_n 1, 1) := by decide +kernel
theorem dX10_clause__8 : decode cX10_clause_ 8 = .ok (.iconst 0, 1) := by decide +kernel
theorem dX10_clause__9 : decode cX10_clause_ 9 = .ok (.aload_n 0, 1) := by decide +kernel
theorem dX10_clause__10 : decode cX10_clause_ 10 = .ok (.getfield 299, 3) := by decide +kernel
theorem dX10_clause__13 : decode cX10_clause_ 13 = .ok (.iconst 1, 1) := by decide +kernel
theorem dX10_clause__14 : decode cX10_clause_ 14 = .ok (.isub, 1) := by decide +kernel
theorem dX10_clause__15 : decode cX10_clause_ 15 = .ok (.invokestatic 184, 3) := by decide +kernel
theorem dX10_clause__18 : decode cX10_clause_ 18 = .ok (.ifCond .ne 7, 3) := by decide +kernel
theorem dX10_clause__21 : decode cX10_clause_ 21 = .ok (.iconst (-1), 1) := by decide +kernel
theorem dX10_clause__22 : decode cX10_clause_ 22 = .ok (.goto 31, 3) := by decide +kernel
theorem dX10_clause__25 : decode cX10_clause_ 25 = .ok (.iload_n 2, 1) := by decide +kernel
theorem dX10_clause__26 : decode cX10_clause_ 26 = .ok (.ifCond .ne 12, 3) := by decide +kernel
theorem dX10_clause__29 : decode cX10_clause_ 29 = .ok (.aload_n 0, 1) := by decide +kernel
theorem dX10_clause__30 : decode cX10_clause_ 30 = .ok (.getfield 110, 3) := by decide +kernel
theorem dX10_clause__33 : decode cX10_clause_ 33 = .ok (.iload_n 1, 1) := by decide +kernel
theorem dX10_clause__34 : decode cX10_clause_ 34 = .ok (.iaload, 1) := by decide +kernel
theorem dX10_clause__35 : decode cX10_clause_ 35 = .ok (.goto 18, 3) := by decide +kernel
theorem dX10_clause__38 : decode cX10_clause_ 38 = .ok (.iload_n 2, 1) := by decide +kernel
theorem dX10_clause__39 : decode cX10_clause_ 39 = .ok (.iconst 1, 1) := by decide +kernel
theorem dX10_clause__40 : decode cX10_clause_ 40 = .ok (.if_icmp .ne 12, 3) := by decide +kernel
theorem dX10_clause__43 : decode cX10_clause_ 43 = .ok (.aload_n 0, 1) := by decide +kernel
theorem dX10_clause__44 : decode cX10_clause_ 44 = .ok (.getfield 113, 3) := by decide +kernel
theorem dX10_clause__47 : decode cX10_clause_ 47 = .ok (.iload_n 1, 1) := by decide +kernel
theorem dX10_clause__48 : decode cX10_clause_ 48 = .ok (.iaload, 1) := by decide +kernel
theorem dX10_clause__49 : decode cX10_clause_ 49 = .ok (.goto 4, 3) := by decide +kernel
theorem dX10_clause__52 : decode cX10_clause_ 52 = .ok (.iconst (-1), 1) := by decide +kernel
theorem dX10_clause__53 : decode cX10_clause_ 53 = .ok (.ireturn, 1) := by decide +kernel
theorem dX10_place_0 : decode cX10_place 0 = .ok (.aload_n 0, 1) := by decide +kernel
theorem dX10_place_1 : decode cX10_place 1 = .ok (.iload_n 1, 1) := by decide +kernel
theorem dX10_place_2 : decode cX10_place 2 = .ok (.invokevirtual 333, 3) := by decide +kernel
theorem dX10_place_5 : decode cX10_place 5 = .ok (.ireturn, 1) := by decide +kernel
theorem dX10_speeches_0 : decode cX10_speeches 0 = .ok (.iload_n 1, 1) := by decide +kernel
theorem dX10_speeches_1 : decode cX10_speeches 1 = .ok (.iconst 0, 1) := by decide +kernel
theorem dX10_speeches_2 : decode cX10_speeches 2 = .ok (.bipush 23, 2) := by decide +kernel
theorem dX10_speeches_4 : decode cX10_speeches 4 = .ok (.invokestatic 184, 3) := by decide +kernel
theorem dX10_speeches_7 : decode cX10_speeches 7 = .ok (.ifCond .eq 12, 3) := by decide +kernel
theorem dX10_speeches_10 : decode cX10_speeches 10 = .ok (.aload_n 0, 1) := by decide +kernel
theorem dX10_speeches_11 : decode cX10_speeches 11 = .ok (.getfield 83, 3) := by decide +kernel
theorem dX10_speeches_14 : decode cX10_speeches 14 = .ok (.iload_n 1, 1) := by decide +kernel
theorem dX10_speeches_15 : decode cX10_speeches 15 = .ok (.iaload, 1) := by decide +kernel
theorem dX10_speeches_16 : decode cX10_speeches 16 = .ok (.goto 4, 3) := by decide +kernel
theorem dX10_speeches_19 : decode cX10_speeches 19 = .ok (.iconst (-1), 1) := by decide +kernel
theorem dX10_speeches_20 : decode cX10_speeches 20 = .ok (.ireturn, 1) := by decide +kernel
theorem dX10_waits_0 : decode cX10_waits 0 = .ok (.iload_n 1, 1) := by decide +kernel
theorem dX10_waits_1 : decode cX10_waits 1 = .ok (.iconst 0, 1) := by decide +kernel
theorem dX10_waits_2 : decode cX10_waits 2 = .ok (.aload_n 0, 1) := by decide +kernel
theorem dX10_waits_3 : decode cX10_waits 3 = .ok (.getfield 268, 3) := by decide +kernel
theorem dX10_waits_6 : decode cX10_waits 6 = .ok (.iconst 1, 1) := by decide +kernel
theorem dX10_waits_7 : decode cX10_waits 7 = .ok (.isub, 1) := by decide +kernel
theorem dX10_waits_8 : decode cX10_waits 8 = .ok (.invokestatic 184, 3) := by decide +kernel
theorem dX10_waits_11 : decode cX10_waits 11 = .ok (.ifCond .ne 5, 3) := by decide +kernel
theorem dX10_waits_14 : decode cX10_waits 14 = .ok (.iconst (-1), 1) := by decide +kernel
theorem dX10_waits_15 : decode cX10_waits 15 = .ok (.ireturn, 1) := by decide +kernel
theorem dX10_waits_16 : decode cX10_waits 16 = .ok (.iconst 0, 1) := by decide +kernel
theorem dX10_waits_17 : decode cX10_waits 17 = .ok (.istore_n 2, 1) := by decide +kernel
theorem dX10_waits_18 : decode cX10_waits 18 = .ok (.iload_n 2, 1) := by decide +kernel
theorem dX10_waits_19 : decode cX10_waits 19 = .ok (.bipush 24, 2) := by decide +kernel
theorem dX10_waits_21 : decode cX10_waits 21 = .ok (.if_icmp .ge 45, 3) := by decide +kernel
theorem dX10_waits_24 : decode cX10_waits 24 = .ok (.aload_n 0, 1) := by decide +kernel
theorem dX10_waits_25 : decode cX10_waits 25 = .ok (.getfield 125, 3) := by decide +kernel
theorem dX10_waits_28 : decode cX10_waits 28 = .ok (.iload_n 2, 1) := by decide +kernel
theorem dX10_waits_29 : decode cX10_waits 29 = .ok (.aload_n 0, 1) := by decide +kernel
theorem dX10_waits_30 : decode cX10_waits 30 = .ok (.getfield 83, 3) := by decide +kernel
theorem dX10_waits_33 : decode cX10_waits 33 = .ok (.iload_n 2, 1) := by decide +kernel
theorem dX10_waits_34 : decode cX10_waits 34 = .ok (.iaload, 1) := by decide +kernel
theorem dX10_waits_35 : decode cX10_waits 35 = .ok (.iastore, 1) := by decide +kernel
theorem dX10_waits_36 : decode cX10_waits 36 = .ok (.aload_n 0, 1) := by decide +kernel
theorem dX10_waits_37 : decode cX10_waits 37 = .ok (.getfield 122, 3) := by decide +kernel
theorem dX10_waits_40 : decode cX10_waits 40 = .ok (.iload_n 2, 1) := by decide +kernel
theorem dX10_waits_41 : decode cX10_waits 41 = .ok (.iload_n 2, 1) := by decide +kernel
theorem dX10_waits_42 : decode cX10_waits 42 = .ok (.aload_n 0, 1) := by decide +kernel
theorem dX10_waits_43 : decode cX10_waits 43 = .ok (.getfield 268, 3) := by decide +kernel
theorem dX10_waits_46 : decode cX10_waits 46 = .ok (.if_icmp .ge 12, 3) := by decide +kernel
theorem dX10_waits_49 : decode cX10_waits 49 = .ok (.aload_n 0, 1) := by decide +kernel
theorem dX10_waits_50 : decode cX10_waits 50 = .ok (.getfield 80, 3) := by decide +kernel
theorem dX10_waits_53 : decode cX10_waits 53 = .ok (.iload_n 2, 1) := by decide +kernel
theorem dX10_waits_54 : decode cX10_waits 54 = .ok (.iaload, 1) := by decide +kernel
theorem dX10_waits_55 : decode cX10_waits 55 = .ok (.goto 4, 3) := by decide +kernel
theorem dX10_waits_58 : decode cX10_waits 58 = .ok (.iconst (-1), 1) := by decide +kernel
theorem dX10_waits_59 : decode cX10_waits 59 = .ok (.iastore, 1) := by decide +kernel
theorem dX10_waits_60 : decode cX10_waits 60 = .ok (.iinc 2 1, 3) := by decide +kernel
theorem dX10_waits_63 : decode cX10_waits 63 = .ok (.goto (-45), 3) := by decide +kernel
theorem dX10_waits_66 : decode cX10_waits 66 = .ok (.aload_n 0, 1) := by decide +kernel
theorem dX10_waits_67 : decode cX10_waits 67 = .ok (.getfield 268, 3) := by decide +kernel
theorem dX10_waits_70 : decode cX10_waits 70 = .ok (.istore_n 2, 1) := by decide +kernel
theorem dX10_waits_71 : decode cX10_waits 71 = .ok (.iconst (-1), 1) := by decide +kernel
theorem dX10_waits_72 : decode cX10_waits 72 = .ok (.istore_n 3, 1) := by decide +kernel
theorem dX10_waits_73 : decode cX10_waits 73 = .ok (.iconst 0, 1) := by decide +kernel
theorem dX10_waits_74 : decode cX10_waits 74 = .ok (.istore 4, 2) := by decide +kernel
theorem dX10_waits_76 : decode cX10_waits 76 = .ok (.iload 4, 2) := by decide +kernel
theorem dX10_waits_78 : decode cX10_waits 78 = .ok (.iload_n 1, 1) := by decide +kernel
theorem dX10_waits_79 : decode cX10_waits 79 = .ok (.if_icmp .gt 77, 3) := by decide +kernel
theorem dX10_waits_82 : decode cX10_waits 82 = .ok (.aload_n 0, 1) := by decide +kernel
theorem dX10_waits_83 : decode cX10_waits 83 = .ok (.aload_n 0, 1) := by decide +kernel
theorem dX10_waits_84 : decode cX10_waits 84 = .ok (.getfield 122, 3) := by decide +kernel
theorem dX10_waits_87 : decode cX10_waits 87 = .ok (.iload_n 2, 1) := by decide +kernel
theorem dX10_waits_88 : decode cX10_waits 88 = .ok (.aload_n 0, 1) := by decide +kernel
theorem dX10_waits_89 : decode cX10_waits 89 = .ok (.getfield 125, 3) := by decide +kernel
theorem dX10_waits_92 : decode cX10_waits 92 = .ok (.invokevirtual 342, 3) := by decide +kernel
theorem dX10_waits_95 : decode cX10_waits 95 = .ok (.istore 5, 2) := by decide +kernel
theorem dX10_waits_97 : decode cX10_waits 97 = .ok (.aload_n 0, 1) := by decide +kernel
theorem dX10_waits_98 : decode cX10_waits 98 = .ok (.getfield 122, 3) := by decide +kernel
theorem dX10_waits_101 : decode cX10_waits 101 = .ok (.iload 5, 2) := by decide +kernel
theorem dX10_waits_103 : decode cX10_waits 103 = .ok (.iaload, 1) := by decide +kernel
theorem dX10_waits_104 : decode cX10_waits 104 = .ok (.istore_n 3, 1) := by decide +kernel
theorem dX10_waits_105 : decode cX10_waits 105 = .ok (.aload_n 0, 1) := by decide +kernel
theorem dX10_waits_106 : decode cX10_waits 106 = .ok (.getfield 125, 3) := by decide +kernel
theorem dX10_waits_109 : decode cX10_waits 109 = .ok (.iload_n 3, 1) := by decide +kernel
theorem dX10_waits_110 : decode cX10_waits 110 = .ok (.dup2, 1) := by decide +kernel
theorem dX10_waits_111 : decode cX10_waits 111 = .ok (.iaload, 1) := by decide +kernel
theorem dX10_waits_112 : decode cX10_waits 112 = .ok (.iconst 1, 1) := by decide +kernel
theorem dX10_waits_113 : decode cX10_waits 113 = .ok (.iadd, 1) := by decide +kernel
theorem dX10_waits_114 : decode cX10_waits 114 = .ok (.iastore, 1) := by decide +kernel
theorem dX10_waits_115 : decode cX10_waits 115 = .ok (.iinc 2 (-1), 3) := by decide +kernel
theorem dX10_waits_118 : decode cX10_waits 118 = .ok (.iload 5, 2) := by decide +kernel
theorem dX10_waits_120 : decode cX10_waits 120 = .ok (.istore 6, 2) := by decide +kernel
theorem dX10_waits_122 : decode cX10_waits 122 = .ok (.iload 6, 2) := by decide +kernel
theorem dX10_waits_124 : decode cX10_waits 124 = .ok (.iload_n 2, 1) := by decide +kernel
theorem dX10_waits_125 : decode cX10_waits 125 = .ok (.if_icmp .ge 25, 3) := by decide +kernel
theorem dX10_waits_128 : decode cX10_waits 128 = .ok (.aload_n 0, 1) := by decide +kernel
theorem dX10_waits_129 : decode cX10_waits 129 = .ok (.getfield 122, 3) := by decide +kernel
theorem dX10_waits_132 : decode cX10_waits 132 = .ok (.iload 6, 2) := by decide +kernel
theorem dX10_waits_134 : decode cX10_waits 134 = .ok (.aload_n 0, 1) := by decide +kernel
theorem dX10_waits_135 : decode cX10_waits 135 = .ok (.getfield 122, 3) := by decide +kernel
theorem dX10_waits_138 : decode cX10_waits 138 = .ok (.iload 6, 2) := by decide +kernel
theorem dX10_waits_140 : decode cX10_waits 140 = .ok (.iconst 1, 1) := by decide +kernel
theorem dX10_waits_141 : decode cX10_waits 141 = .ok (.iadd, 1) := by decide +kernel
theorem dX10_waits_142 : decode cX10_waits 142 = .ok (.iaload, 1) := by decide +kernel
theorem dX10_waits_143 : decode cX10_waits 143 = .ok (.iastore, 1) := by decide +kernel
theorem dX10_waits_144 : decode cX10_waits 144 = .ok (.iinc 6 1, 3) := by decide +kernel
theorem dX10_waits_147 : decode cX10_waits 147 = .ok (.goto (-25), 3) := by decide +kernel
theorem dX10_waits_150 : decode cX10_waits 150 = .ok (.iinc 4 1, 3) := by decide +kernel
theorem dX10_waits_153 : decode cX10_waits 153 = .ok (.goto (-77), 3) := by decide +kernel
theorem dX10_waits_156 : decode cX10_waits 156 = .ok (.iload_n 3, 1) := by decide +kernel
theorem dX10_waits_157 : decode cX10_waits 157 = .ok (.ireturn, 1) := by decide +kernel
theorem dX10_overturned_0 : decode cX10_overturned 0 = .ok (.iload_n 1, 1) := by decide +kernel
theorem dX10_overturned_1 : decode cX10_overturned 1 = .ok (.iconst 0, 1) := by decide +kernel
theorem dX10_overturned_2 : decode cX10_overturned 2 = .ok (.aload_n 0, 1) := by decide +kernel
theorem dX10_overturned_3 : decode cX10_overturned 3 = .ok (.getfield 259, 3) := by decide +kernel
theorem dX10_overturned_6 : decode cX10_overturned 6 = .ok (.iconst 1, 1) := by decide +kernel
theorem dX10_overturned_7 : decode cX10_overturned 7 = .ok (.isub, 1) := by decide +kernel
theorem dX10_overturned_8 : decode cX10_overturned 8 = .ok (.invokestatic 184, 3) := by decide +kernel
theorem dX10_overturned_11 : decode cX10_overturned 11 = .ok (.ifCond .eq 22, 3) := by decide +kernel
theorem dX10_overturned_14 : decode cX10_overturned 14 = .ok (.aload_n 0, 1) := by decide +kernel
theorem dX10_overturned_15 : decode cX10_overturned 15 = .ok (.getfield 70, 3) := by decide +kernel
theorem dX10_overturned_18 : decode cX10_overturned 18 = .ok (.iconst 0, 1) := by decide +kernel
theorem dX10_overturned_19 : decode cX10_overturned 19 = .ok (.aaload, 1) := by decide +kernel
theorem dX10_overturned_20 : decode cX10_overturned 20 = .ok (.iload_n 1, 1) := by decide +kernel
theorem dX10_overturned_21 : decode cX10_overturned 21 = .ok (.baload, 1) := by decide +kernel
theorem dX10_overturned_22 : decode cX10_overturned 22 = .ok (.ifCond .eq 7, 3) := by decide +kernel
theorem dX10_overturned_25 : decode cX10_overturned 25 = .ok (.iconst 1, 1) := by decide +kernel
theorem dX10_overturned_26 : decode cX10_overturned 26 = .ok (.goto 8, 3) := by decide +kernel
theorem dX10_overturned_29 : decode cX10_overturned 29 = .ok (.iconst 0, 1) := by decide +kernel
theorem dX10_overturned_30 : decode cX10_overturned 30 = .ok (.goto 4, 3) := by decide +kernel
theorem dX10_overturned_33 : decode cX10_overturned 33 = .ok (.iconst (-1), 1) := by decide +kernel
theorem dX10_overturned_34 : decode cX10_overturned 34 = .ok (.ireturn, 1) := by decide +kernel
theorem dX10_score_0 : decode cX10_score 0 = .ok (.iload_n 1, 1) := by decide +kernel
theorem dX10_score_1 : decode cX10_score 1 = .ok (.iconst 0, 1) := by decide +kernel
theorem dX10_score_2 : decode cX10_score 2 = .ok (.iconst 5, 1) := by decide +kernel
theorem dX10_score_3 : decode cX10_score 3 = .ok (.invokestatic 184, 3) := by decide +kernel
theorem dX10_score_6 : decode cX10_score 6 = .ok (.ifCond .eq 54, 3) := by decide +kernel
theorem dX10_score_9 : decode cX10_score 9 = .ok (.iload_n 2, 1) := by decide +kernel
theorem dX10_score_10 : decode cX10_score 10 = .ok (.iconst 0, 1) := by decide +kernel
theorem dX10_score_11 : decode cX10_score 11 = .ok (.bipush 7, 2) := by decide +kernel
theorem dX10_score_13 : decode cX10_score 13 = .ok (.invokestatic 184, 3) := by decide +kernel
theorem dX10_score_16 : decode cX10_score 16 = .ok (.ifCond .eq 44, 3) := by decide +kernel
theorem dX10_score_19 : decode cX10_score 19 = .ok (.iload_n 3, 1) := by decide +kernel
theorem dX10_score_20 : decode cX10_score 20 = .ok (.iconst 0, 1) := by decide +kernel
theorem dX10_score_21 : decode cX10_score 21 = .ok (.bipush 23, 2) := by decide +kernel
theorem dX10_score_23 : decode cX10_score 23 = .ok (.invokestatic 184, 3) := by decide +kernel
theorem dX10_score_26 : decode cX10_score 26 = .ok (.ifCond .eq 34, 3) := by decide +kernel
theorem dX10_score_29 : decode cX10_score 29 = .ok (.iload 4, 2) := by decide +kernel
theorem dX10_score_31 : decode cX10_score 31 = .ok (.iconst 0, 1) := by decide +kernel
theorem dX10_score_32 : decode cX10_score 32 = .ok (.bipush 100, 2) := by decide +kernel
theorem dX10_score_34 : decode cX10_score 34 = .ok (.invokestatic 184, 3) := by decide +kernel
theorem dX10_score_37 : decode cX10_score 37 = .ok (.ifCond .eq 23, 3) := by decide +kernel
theorem dX10_score_40 : decode cX10_score 40 = .ok (.aload_n 0, 1) := by decide +kernel
theorem dX10_score_41 : decode cX10_score 41 = .ok (.getfield 128, 3) := by decide +kernel
theorem dX10_score_44 : decode cX10_score 44 = .ok (.iload_n 1, 1) := by decide +kernel
theorem dX10_score_45 : decode cX10_score 45 = .ok (.iaload, 1) := by decide +kernel
theorem dX10_score_46 : decode cX10_score 46 = .ok (.iconst (-1), 1) := by decide +kernel
theorem dX10_score_47 : decode cX10_score 47 = .ok (.if_icmp .eq 15, 3) := by decide +kernel
theorem dX10_score_50 : decode cX10_score 50 = .ok (.aload_n 0, 1) := by decide +kernel
theorem dX10_score_51 : decode cX10_score 51 = .ok (.getfield 128, 3) := by decide +kernel
theorem dX10_score_54 : decode cX10_score 54 = .ok (.iload_n 1, 1) := by decide +kernel
theorem dX10_score_55 : decode cX10_score 55 = .ok (.iaload, 1) := by decide +kernel
theorem dX10_score_56 : decode cX10_score 56 = .ok (.iload_n 2, 1) := by decide +kernel
theorem dX10_score_57 : decode cX10_score 57 = .ok (.if_icmp .eq 5, 3) := by decide +kernel
theorem dX10_score_60 : decode cX10_score 60 = .ok (.iconst 0, 1) := by decide +kernel
theorem dX10_score_61 : decode cX10_score 61 = .ok (.ireturn, 1) := by decide +kernel
theorem dX10_score_62 : decode cX10_score 62 = .ok (.aload_n 0, 1) := by decide +kernel
theorem dX10_score_63 : decode cX10_score 63 = .ok (.getfield 128, 3) := by decide +kernel
theorem dX10_score_66 : decode cX10_score 66 = .ok (.iload_n 1, 1) := by decide +kernel
theorem dX10_score_67 : decode cX10_score 67 = .ok (.iload_n 2, 1) := by decide +kernel
theorem dX10_score_68 : decode cX10_score 68 = .ok (.iastore, 1) := by decide +kernel
theorem dX10_score_69 : decode cX10_score 69 = .ok (.aload_n 0, 1) := by decide +kernel
theorem dX10_score_70 : decode cX10_score 70 = .ok (.getfield 131, 3) := by decide +kernel
theorem dX10_score_73 : decode cX10_score 73 = .ok (.iload_n 1, 1) := by decide +kernel
theorem dX10_score_74 : decode cX10_score 74 = .ok (.aaload, 1) := by decide +kernel
theorem dX10_score_75 : decode cX10_score 75 = .ok (.iload_n 3, 1) := by decide +kernel
theorem dX10_score_76 : decode cX10_score 76 = .ok (.iload 4, 2) := by decide +kernel
theorem dX10_score_78 : decode cX10_score 78 = .ok (.iastore, 1) := by decide +kernel
theorem dX10_score_79 : decode cX10_score 79 = .ok (.aload_n 0, 1) := by decide +kernel
theorem dX10_score_80 : decode cX10_score 80 = .ok (.getfield 134, 3) := by decide +kernel
theorem dX10_score_83 : decode cX10_score 83 = .ok (.iload_n 1, 1) := by decide +kernel
theorem dX10_score_84 : decode cX10_score 84 = .ok (.aaload, 1) := by decide +kernel
theorem dX10_score_85 : decode cX10_score 85 = .ok (.iload_n 3, 1) := by decide +kernel
theorem dX10_score_86 : decode cX10_score 86 = .ok (.iconst 1, 1) := by decide +kernel
theorem dX10_score_87 : decode cX10_score 87 = .ok (.bastore, 1) := by decide +kernel
theorem dX10_score_88 : decode cX10_score 88 = .ok (.iconst 1, 1) := by decide +kernel
theorem dX10_score_89 : decode cX10_score 89 = .ok (.ireturn, 1) := by decide +kernel
theorem dX10_counts_0 : decode cX10_counts 0 = .ok (.aload_n 0, 1) := by decide +kernel
theorem dX10_counts_1 : decode cX10_counts 1 = .ok (.getfield 134, 3) := by decide +kernel
theorem dX10_counts_4 : decode cX10_counts 4 = .ok (.iload_n 1, 1) := by decide +kernel
theorem dX10_counts_5 : decode cX10_counts 5 = .ok (.aaload, 1) := by decide +kernel
theorem dX10_counts_6 : decode cX10_counts 6 = .ok (.iload_n 2, 1) := by decide +kernel
theorem dX10_counts_7 : decode cX10_counts 7 = .ok (.baload, 1) := by decide +kernel
theorem dX10_counts_8 : decode cX10_counts 8 = .ok (.ifCond .eq 22, 3) := by decide +kernel
theorem dX10_counts_11 : decode cX10_counts 11 = .ok (.aload_n 0, 1) := by decide +kernel
theorem dX10_counts_12 : decode cX10_counts 12 = .ok (.getfield 46, 3) := by decide +kernel
theorem dX10_counts_15 : decode cX10_counts 15 = .ok (.iload_n 2, 1) := by decide +kernel
theorem dX10_counts_16 : decode cX10_counts 16 = .ok (.iaload, 1) := by decide +kernel
theorem dX10_counts_17 : decode cX10_counts 17 = .ok (.aload_n 0, 1) := by decide +kernel
theorem dX10_counts_18 : decode cX10_counts 18 = .ok (.getfield 128, 3) := by decide +kernel
theorem dX10_counts_21 : decode cX10_counts 21 = .ok (.iload_n 1, 1) := by decide +kernel
theorem dX10_counts_22 : decode cX10_counts 22 = .ok (.iaload, 1) := by decide +kernel
theorem dX10_counts_23 : decode cX10_counts 23 = .ok (.if_icmp .eq 7, 3) := by decide +kernel
theorem dX10_counts_26 : decode cX10_counts 26 = .ok (.iconst 1, 1) := by decide +kernel
theorem dX10_counts_27 : decode cX10_counts 27 = .ok (.goto 4, 3) := by decide +kernel
theorem dX10_counts_30 : decode cX10_counts 30 = .ok (.iconst 0, 1) := by decide +kernel
theorem dX10_counts_31 : decode cX10_counts 31 = .ok (.ireturn, 1) := by decide +kernel
theorem dX10_scaled_0 : decode cX10_scaled 0 = .ok (.bipush 100, 2) := by decide +kernel
theorem dX10_scaled_2 : decode cX10_scaled 2 = .ok (.istore_n 3, 1) := by decide +kernel
theorem dX10_scaled_3 : decode cX10_scaled 3 = .ok (.iconst 0, 1) := by decide +kernel
theorem dX10_scaled_4 : decode cX10_scaled 4 = .ok (.istore 4, 2) := by decide +kernel
theorem dX10_scaled_6 : decode cX10_scaled 6 = .ok (.iconst 0, 1) := by decide +kernel
theorem dX10_scaled_7 : decode cX10_scaled 7 = .ok (.istore 5, 2) := by decide +kernel
theorem dX10_scaled_9 : decode cX10_scaled 9 = .ok (.iload 5, 2) := by decide +kernel
theorem dX10_scaled_11 : decode cX10_scaled 11 = .ok (.bipush 24, 2) := by decide +kernel
theorem dX10_scaled_13 : decode cX10_scaled 13 = .ok (.if_icmp .ge 76, 3) := by decide +kernel
theorem dX10_scaled_16 : decode cX10_scaled 16 = .ok (.aload_n 0, 1) := by decide +kernel
theorem dX10_scaled_17 : decode cX10_scaled 17 = .ok (.iload_n 1, 1) := by decide +kernel
theorem dX10_scaled_18 : decode cX10_scaled 18 = .ok (.iload 5, 2) := by decide +kernel
theorem dX10_scaled_20 : decode cX10_scaled 20 = .ok (.invokevirtual 392, 3) := by decide +kernel
theorem dX10_scaled_23 : decode cX10_scaled 23 = .ok (.ifCond .eq 60, 3) := by decide +kernel
theorem dX10_scaled_26 : decode cX10_scaled 26 = .ok (.aload_n 0, 1) := by decide +kernel
theorem dX10_scaled_27 : decode cX10_scaled 27 = .ok (.getfield 131, 3) := by decide +kernel
theorem dX10_scaled_30 : decode cX10_scaled 30 = .ok (.iload_n 1, 1) := by decide +kernel
theorem dX10_scaled_31 : decode cX10_scaled 31 = .ok (.aaload, 1) := by decide +kernel
theorem dX10_scaled_32 : decode cX10_scaled 32 = .ok (.iload 5, 2) := by decide +kernel
theorem dX10_scaled_34 : decode cX10_scaled 34 = .ok (.iaload, 1) := by decide +kernel
theorem dX10_scaled_35 : decode cX10_scaled 35 = .ok (.iload_n 3, 1) := by decide +kernel
theorem dX10_scaled_36 : decode cX10_scaled 36 = .ok (.if_icmp .ge 15, 3) := by decide +kernel
theorem dX10_scaled_39 : decode cX10_scaled 39 = .ok (.aload_n 0, 1) := by decide +kernel
theorem dX10_scaled_40 : decode cX10_scaled 40 = .ok (.getfield 131, 3) := by decide +kernel
theorem dX10_scaled_43 : decode cX10_scaled 43 = .ok (.iload_n 1, 1) := by decide +kernel
theorem dX10_scaled_44 : decode cX10_scaled 44 = .ok (.aaload, 1) := by decide +kernel
theorem dX10_scaled_45 : decode cX10_scaled 45 = .ok (.iload 5, 2) := by decide +kernel
theorem dX10_scaled_47 : decode cX10_scaled 47 = .ok (.iaload, 1) := by decide +kernel
theorem dX10_scaled_48 : decode cX10_scaled 48 = .ok (.goto 4, 3) := by decide +kernel
theorem dX10_scaled_51 : decode cX10_scaled 51 = .ok (.iload_n 3, 1) := by decide +kernel
theorem dX10_scaled_52 : decode cX10_scaled 52 = .ok (.istore_n 3, 1) := by decide +kernel
theorem dX10_scaled_53 : decode cX10_scaled 53 = .ok (.aload_n 0, 1) := by decide +kernel
theorem dX10_scaled_54 : decode cX10_scaled 54 = .ok (.getfield 131, 3) := by decide +kernel
theorem dX10_scaled_57 : decode cX10_scaled 57 = .ok (.iload_n 1, 1) := by decide +kernel
theorem dX10_scaled_58 : decode cX10_scaled 58 = .ok (.aaload, 1) := by decide +kernel
theorem dX10_scaled_59 : decode cX10_scaled 59 = .ok (.iload 5, 2) := by decide +kernel
theorem dX10_scaled_61 : decode cX10_scaled 61 = .ok (.iaload, 1) := by decide +kernel
theorem dX10_scaled_62 : decode cX10_scaled 62 = .ok (.iload 4, 2) := by decide +kernel
theorem dX10_scaled_64 : decode cX10_scaled 64 = .ok (.if_icmp .le 15, 3) := by decide +kernel
theorem dX10_scaled_67 : decode cX10_scaled 67 = .ok (.aload_n 0, 1) := by decide +kernel
theorem dX10_scaled_68 : decode cX10_scaled 68 = .ok (.getfield 131, 3) := by decide +kernel
theorem dX10_scaled_71 : decode cX10_scaled 71 = .ok (.iload_n 1, 1) := by decide +kernel
theorem dX10_scaled_72 : decode cX10_scaled 72 = .ok (.aaload, 1) := by decide +kernel
theorem dX10_scaled_73 : decode cX10_scaled 73 = .ok (.iload 5, 2) := by decide +kernel
theorem dX10_scaled_75 : decode cX10_scaled 75 = .ok (.iaload, 1) := by decide +kernel
theorem dX10_scaled_76 : decode cX10_scaled 76 = .ok (.goto 5, 3) := by decide +kernel
theorem dX10_scaled_79 : decode cX10_scaled 79 = .ok (.iload 4, 2) := by decide +kernel
theorem dX10_scaled_81 : decode cX10_scaled 81 = .ok (.istore 4, 2) := by decide +kernel
theorem dX10_scaled_83 : decode cX10_scaled 83 = .ok (.iinc 5 1, 3) := by decide +kernel
theorem dX10_scaled_86 : decode cX10_scaled 86 = .ok (.goto (-77), 3) := by decide +kernel
theorem dX10_scaled_89 : decode cX10_scaled 89 = .ok (.iload_n 3, 1) := by decide +kernel
theorem dX10_scaled_90 : decode cX10_scaled 90 = .ok (.iload 4, 2) := by decide +kernel
theorem dX10_scaled_92 : decode cX10_scaled 92 = .ok (.if_icmp .ne 9, 3) := by decide +kernel
theorem dX10_scaled_95 : decode cX10_scaled 95 = .ok (.sipush 500, 3) := by decide +kernel
theorem dX10_scaled_98 : decode cX10_scaled 98 = .ok (.goto 22, 3) := by decide +kernel
theorem dX10_scaled_101 : decode cX10_scaled 101 = .ok (.aload_n 0, 1) := by decide +kernel
theorem dX10_scaled_102 : decode cX10_scaled 102 = .ok (.getfield 131, 3) := by decide +kernel
theorem dX10_scaled_105 : decode cX10_scaled 105 = .ok (.iload_n 1, 1) := by decide +kernel
theorem dX10_scaled_106 : decode cX10_scaled 106 = .ok (.aaload, 1) := by decide +kernel
theorem dX10_scaled_107 : decode cX10_scaled 107 = .ok (.iload_n 2, 1) := by decide +kernel
theorem dX10_scaled_108 : decode cX10_scaled 108 = .ok (.iaload, 1) := by decide +kernel
theorem dX10_scaled_109 : decode cX10_scaled 109 = .ok (.iload_n 3, 1) := by decide +kernel
theorem dX10_scaled_110 : decode cX10_scaled 110 = .ok (.isub, 1) := by decide +kernel
theorem dX10_scaled_111 : decode cX10_scaled 111 = .ok (.sipush 1000, 3) := by decide +kernel
theorem dX10_scaled_114 : decode cX10_scaled 114 = .ok (.imul, 1) := by decide +kernel
theorem dX10_scaled_115 : decode cX10_scaled 115 = .ok (.iload 4, 2) := by decide +kernel
theorem dX10_scaled_117 : decode cX10_scaled 117 = .ok (.iload_n 3, 1) := by decide +kernel
theorem dX10_scaled_118 : decode cX10_scaled 118 = .ok (.isub, 1) := by decide +kernel
theorem dX10_scaled_119 : decode cX10_scaled 119 = .ok (.idiv, 1) := by decide +kernel
theorem dX10_scaled_120 : decode cX10_scaled 120 = .ok (.ireturn, 1) := by decide +kernel
theorem dX10_mean_0 : decode cX10_mean 0 = .ok (.iconst 0, 1) := by decide +kernel
theorem dX10_mean_1 : decode cX10_mean 1 = .ok (.istore_n 2, 1) := by decide +kernel
theorem dX10_mean_2 : decode cX10_mean 2 = .ok (.iconst 0, 1) := by decide +kernel
theorem dX10_mean_3 : decode cX10_mean 3 = .ok (.istore_n 3, 1) := by decide +kernel
theorem dX10_mean_4 : decode cX10_mean 4 = .ok (.iconst 0, 1) := by decide +kernel
theorem dX10_mean_5 : decode cX10_mean 5 = .ok (.istore 4, 2) := by decide +kernel
theorem dX10_mean_7 : decode cX10_mean 7 = .ok (.iload_n 1, 1) := by decide +kernel
theorem dX10_mean_8 : decode cX10_mean 8 = .ok (.iconst 0, 1) := by decide +kernel
theorem dX10_mean_9 : decode cX10_mean 9 = .ok (.bipush 23, 2) := by decide +kernel
theorem dX10_mean_11 : decode cX10_mean 11 = .ok (.invokestatic 184, 3) := by decide +kernel
theorem dX10_mean_14 : decode cX10_mean 14 = .ok (.ifCond .eq 39, 3) := by decide +kernel
theorem dX10_mean_17 : decode cX10_mean 17 = .ok (.iload 4, 2) := by decide +kernel
theorem dX10_mean_19 : decode cX10_mean 19 = .ok (.bipush 6, 2) := by decide +kernel
theorem dX10_mean_21 : decode cX10_mean 21 = .ok (.if_icmp .ge 32, 3) := by decide +kernel
theorem dX10_mean_24 : decode cX10_mean 24 = .ok (.aload_n 0, 1) := by decide +kernel
theorem dX10_mean_25 : decode cX10_mean 25 = .ok (.iload 4, 2) := by decide +kernel
theorem dX10_mean_27 : decode cX10_mean 27 = .ok (.iload_n 1, 1) := by decide +kernel
theorem dX10_mean_28 : decode cX10_mean 28 = .ok (.invokevirtual 392, 3) := by decide +kernel
theorem dX10_mean_31 : decode cX10_mean 31 = .ok (.ifCond .eq 16, 3) := by decide +kernel
theorem dX10_mean_34 : decode cX10_mean 34 = .ok (.iload_n 2, 1) := by decide +kernel
theorem dX10_mean_35 : decode cX10_mean 35 = .ok (.aload_n 0, 1) := by decide +kernel
theorem dX10_mean_36 : decode cX10_mean 36 = .ok (.iload 4, 2) := by decide +kernel
theorem dX10_mean_38 : decode cX10_mean 38 = .ok (.iload_n 1, 1) := by decide +kernel
theorem dX10_mean_39 : decode cX10_mean 39 = .ok (.invokevirtual 395, 3) := by decide +kernel
theorem dX10_mean_42 : decode cX10_mean 42 = .ok (.iadd, 1) := by decide +kernel
theorem dX10_mean_43 : decode cX10_mean 43 = .ok (.istore_n 2, 1) := by decide +kernel
theorem dX10_mean_44 : decode cX10_mean 44 = .ok (.iinc 3 1, 3) := by decide +kernel
theorem dX10_mean_47 : decode cX10_mean 47 = .ok (.iinc 4 1, 3) := by decide +kernel
theorem dX10_mean_50 : decode cX10_mean 50 = .ok (.goto (-43), 3) := by decide +kernel
theorem dX10_mean_53 : decode cX10_mean 53 = .ok (.iload_n 3, 1) := by decide +kernel
theorem dX10_mean_54 : decode cX10_mean 54 = .ok (.ifCond .ne 7, 3) := by decide +kernel
theorem dX10_mean_57 : decode cX10_mean 57 = .ok (.iconst (-1), 1) := by decide +kernel
theorem dX10_mean_58 : decode cX10_mean 58 = .ok (.goto 6, 3) := by decide +kernel
theorem dX10_mean_61 : decode cX10_mean 61 = .ok (.iload_n 2, 1) := by decide +kernel
theorem dX10_mean_62 : decode cX10_mean 62 = .ok (.iload_n 3, 1) := by decide +kernel
theorem dX10_mean_63 : decode cX10_mean 63 = .ok (.idiv, 1) := by decide +kernel
theorem dX10_mean_64 : decode cX10_mean 64 = .ok (.ireturn, 1) := by decide +kernel
theorem dX10_award_0 : decode cX10_award 0 = .ok (.iconst (-1), 1) := by decide +kernel
theorem dX10_award_1 : decode cX10_award 1 = .ok (.istore_n 2, 1) := by decide +kernel
theorem dX10_award_2 : decode cX10_award 2 = .ok (.iconst 0, 1) := by decide +kernel
theorem dX10_award_3 : decode cX10_award 3 = .ok (.istore_n 3, 1) := by decide +kernel
theorem dX10_award_4 : decode cX10_award 4 = .ok (.iload_n 3, 1) := by decide +kernel
theorem dX10_award_5 : decode cX10_award 5 = .ok (.bipush 24, 2) := by decide +kernel
theorem dX10_award_7 : decode cX10_award 7 = .ok (.if_icmp .ge 16, 3) := by decide +kernel
theorem dX10_award_10 : decode cX10_award 10 = .ok (.aload_n 0, 1) := by decide +kernel
theorem dX10_award_11 : decode cX10_award 11 = .ok (.getfield 137, 3) := by decide +kernel
theorem dX10_award_14 : decode cX10_award 14 = .ok (.iload_n 3, 1) := by decide +kernel
theorem dX10_award_15 : decode cX10_award 15 = .ok (.iconst 0, 1) := by decide +kernel
theorem dX10_award_16 : decode cX10_award 16 = .ok (.bastore, 1) := by decide +kernel
theorem dX10_award_17 : decode cX10_award 17 = .ok (.iinc 3 1, 3) := by decide +kernel
theorem dX10_award_20 : decode cX10_award 20 = .ok (.goto (-16), 3) := by decide +kernel
theorem dX10_award_23 : decode cX10_award 23 = .ok (.iconst 0, 1) := by decide +kernel
theorem dX10_award_24 : decode cX10_award 24 = .ok (.istore_n 3, 1) := by decide +kernel
theorem dX10_award_25 : decode cX10_award 25 = .ok (.iload_n 3, 1) := by decide +kernel
theorem dX10_award_26 : decode cX10_award 26 = .ok (.iload_n 1, 1) := by decide +kernel
theorem dX10_award_27 : decode cX10_award 27 = .ok (.if_icmp .gt 83, 3) := by decide +kernel
theorem dX10_award_30 : decode cX10_award 30 = .ok (.iconst (-1), 1) := by decide +kernel
theorem dX10_award_31 : decode cX10_award 31 = .ok (.istore_n 2, 1) := by decide +kernel
theorem dX10_award_32 : decode cX10_award 32 = .ok (.iconst 0, 1) := by decide +kernel
theorem dX10_award_33 : decode cX10_award 33 = .ok (.istore 4, 2) := by decide +kernel
theorem dX10_award_35 : decode cX10_award 35 = .ok (.iload 4, 2) := by decide +kernel
theorem dX10_award_37 : decode cX10_award 37 = .ok (.bipush 24, 2) := by decide +kernel
theorem dX10_award_39 : decode cX10_award 39 = .ok (.if_icmp .ge 51, 3) := by decide +kernel
theorem dX10_award_42 : decode cX10_award 42 = .ok (.aload_n 0, 1) := by decide +kernel
theorem dX10_award_43 : decode cX10_award 43 = .ok (.getfield 137, 3) := by decide +kernel
theorem dX10_award_46 : decode cX10_award 46 = .ok (.iload 4, 2) := by decide +kernel
theorem dX10_award_48 : decode cX10_award 48 = .ok (.baload, 1) := by decide +kernel
theorem dX10_award_49 : decode cX10_award 49 = .ok (.ifCond .ne 35, 3) := by decide +kernel
theorem dX10_award_52 : decode cX10_award 52 = .ok (.aload_n 0, 1) := by decide +kernel
theorem dX10_award_53 : decode cX10_award 53 = .ok (.iload 4, 2) := by decide +kernel
theorem dX10_award_55 : decode cX10_award 55 = .ok (.invokevirtual 398, 3) := by decide +kernel
theorem dX10_award_58 : decode cX10_award 58 = .ok (.iconst (-1), 1) := by decide +kernel
theorem dX10_award_59 : decode cX10_award 59 = .ok (.if_icmp .eq 25, 3) := by decide +kernel
theorem dX10_award_62 : decode cX10_award 62 = .ok (.iload_n 2, 1) := by decide +kernel
theorem dX10_award_63 : decode cX10_award 63 = .ok (.iconst (-1), 1) := by decide +kernel
theorem dX10_award_64 : decode cX10_award 64 = .ok (.if_icmp .eq 17, 3) := by decide +kernel
theorem dX10_award_67 : decode cX10_award 67 = .ok (.aload_n 0, 1) := by decide +kernel
theorem dX10_award_68 : decode cX10_award 68 = .ok (.iload 4, 2) := by decide +kernel
theorem dX10_award_70 : decode cX10_award 70 = .ok (.invokevirtual 398, 3) := by decide +kernel
theorem dX10_award_73 : decode cX10_award 73 = .ok (.aload_n 0, 1) := by decide +kernel
theorem dX10_award_74 : decode cX10_award 74 = .ok (.iload_n 2, 1) := by decide +kernel
theorem dX10_award_75 : decode cX10_award 75 = .ok (.invokevirtual 398, 3) := by decide +kernel
theorem dX10_award_78 : decode cX10_award 78 = .ok (.if_icmp .le 6, 3) := by decide +kernel
theorem dX10_award_81 : decode cX10_award 81 = .ok (.iload 4, 2) := by decide +kernel
theorem dX10_award_83 : decode cX10_award 83 = .ok (.istore_n 2, 1) := by decide +kernel
theorem dX10_award_84 : decode cX10_award 84 = .ok (.iinc 4 1, 3) := by decide +kernel
theorem dX10_award_87 : decode cX10_award 87 = .ok (.goto (-52), 3) := by decide +kernel
theorem dX10_award_90 : decode cX10_award 90 = .ok (.iload_n 2, 1) := by decide +kernel
theorem dX10_award_91 : decode cX10_award 91 = .ok (.iconst (-1), 1) := by decide +kernel
theorem dX10_award_92 : decode cX10_award 92 = .ok (.if_icmp .ne 5, 3) := by decide +kernel
theorem dX10_award_95 : decode cX10_award 95 = .ok (.iconst (-1), 1) := by decide +kernel
theorem dX10_award_96 : decode cX10_award 96 = .ok (.ireturn, 1) := by decide +kernel
theorem dX10_award_97 : decode cX10_award 97 = .ok (.aload_n 0, 1) := by decide +kernel
theorem dX10_award_98 : decode cX10_award 98 = .ok (.getfield 137, 3) := by decide +kernel
theorem dX10_award_101 : decode cX10_award 101 = .ok (.iload_n 2, 1) := by decide +kernel
theorem dX10_award_102 : decode cX10_award 102 = .ok (.iconst 1, 1) := by decide +kernel
theorem dX10_award_103 : decode cX10_award 103 = .ok (.bastore, 1) := by decide +kernel
theorem dX10_award_104 : decode cX10_award 104 = .ok (.iinc 3 1, 3) := by decide +kernel
theorem dX10_award_107 : decode cX10_award 107 = .ok (.goto (-82), 3) := by decide +kernel
theorem dX10_award_110 : decode cX10_award 110 = .ok (.iload_n 2, 1) := by decide +kernel
theorem dX10_award_111 : decode cX10_award 111 = .ok (.ireturn, 1) := by decide +kernel
theorem dX10_told_0 : decode cX10_told 0 = .ok (.iload_n 1, 1) := by decide +kernel
theorem dX10_told_1 : decode cX10_told 1 = .ok (.iconst 0, 1) := by decide +kernel
theorem dX10_told_2 : decode cX10_told 2 = .ok (.bipush 7, 2) := by decide +kernel
theorem dX10_told_4 : decode cX10_told 4 = .ok (.invokestatic 184, 3) := by decide +kernel
theorem dX10_told_7 : decode cX10_told 7 = .ok (.ifCond .eq 12, 3) := by decide +kernel
theorem dX10_told_10 : decode cX10_told 10 = .ok (.aload_n 0, 1) := by decide +kernel
theorem dX10_told_11 : decode cX10_told 11 = .ok (.getfield 19, 3) := by decide +kernel
theorem dX10_told_14 : decode cX10_told 14 = .ok (.iconst 0, 1) := by decide +kernel
theorem dX10_told_15 : decode cX10_told 15 = .ok (.aaload, 1) := by decide +kernel
theorem dX10_told_16 : decode cX10_told 16 = .ok (.iload_n 1, 1) := by decide +kernel
theorem dX10_told_17 : decode cX10_told 17 = .ok (.iaload, 1) := by decide +kernel
theorem dX10_told_18 : decode cX10_told 18 = .ok (.ireturn, 1) := by decide +kernel
theorem dX10_told_19 : decode cX10_told 19 = .ok (.iload_n 1, 1) := by decide +kernel
theorem dX10_told_20 : decode cX10_told 20 = .ok (.bipush 20, 2) := by decide +kernel
theorem dX10_told_22 : decode cX10_told 22 = .ok (.bipush 27, 2) := by decide +kernel
theorem dX10_told_24 : decode cX10_told 24 = .ok (.invokestatic 184, 3) := by decide +kernel
theorem dX10_told_27 : decode cX10_told 27 = .ok (.ifCond .eq 33, 3) := by decide +kernel
theorem dX10_told_30 : decode cX10_told 30 = .ok (.aload_n 0, 1) := by decide +kernel
theorem dX10_told_31 : decode cX10_told 31 = .ok (.getfield 19, 3) := by decide +kernel
theorem dX10_told_34 : decode cX10_told 34 = .ok (.iconst 0, 1) := by decide +kernel
theorem dX10_told_35 : decode cX10_told 35 = .ok (.aaload, 1) := by decide +kernel
theorem dX10_told_36 : decode cX10_told 36 = .ok (.iload_n 1, 1) := by decide +kernel
theorem dX10_told_37 : decode cX10_told 37 = .ok (.bipush 20, 2) := by decide +kernel
theorem dX10_told_39 : decode cX10_told 39 = .ok (.isub, 1) := by decide +kernel
theorem dX10_told_40 : decode cX10_told 40 = .ok (.iaload, 1) := by decide +kernel
theorem dX10_told_41 : decode cX10_told 41 = .ok (.ifCond .ne 7, 3) := by decide +kernel
theorem dX10_told_44 : decode cX10_told 44 = .ok (.iconst (-1), 1) := by decide +kernel
theorem dX10_told_45 : decode cX10_told 45 = .ok (.goto 14, 3) := by decide +kernel
theorem dX10_told_48 : decode cX10_told 48 = .ok (.aload_n 0, 1) := by decide +kernel
theorem dX10_told_49 : decode cX10_told 49 = .ok (.getfield 22, 3) := by decide +kernel
theorem dX10_told_52 : decode cX10_told 52 = .ok (.iconst 0, 1) := by decide +kernel
theorem dX10_told_53 : decode cX10_told 53 = .ok (.aaload, 1) := by decide +kernel
theorem dX10_told_54 : decode cX10_told 54 = .ok (.iload_n 1, 1) := by decide +kernel
theorem dX10_told_55 : decode cX10_told 55 = .ok (.bipush 20, 2) := by decide +kernel
theorem dX10_told_57 : decode cX10_told 57 = .ok (.isub, 1) := by decide +kernel
theorem dX10_told_58 : decode cX10_told 58 = .ok (.iaload, 1) := by decide +kernel
theorem dX10_told_59 : decode cX10_told 59 = .ok (.ireturn, 1) := by decide +kernel
theorem dX10_told_60 : decode cX10_told 60 = .ok (.iload_n 1, 1) := by decide +kernel
theorem dX10_told_61 : decode cX10_told 61 = .ok (.lookupswitch 100 #[(10, 51), (11, 58), (12, 65), (13, 80), (30, 95)], 51) := by decide +kernel
theorem dX10_told_112 : decode cX10_told 112 = .ok (.aload_n 0, 1) := by decide +kernel
theorem dX10_told_113 : decode cX10_told 113 = .ok (.getfield 33, 3) := by decide +kernel
theorem dX10_told_116 : decode cX10_told 116 = .ok (.iconst 0, 1) := by decide +kernel
theorem dX10_told_117 : decode cX10_told 117 = .ok (.iaload, 1) := by decide +kernel
theorem dX10_told_118 : decode cX10_told 118 = .ok (.ireturn, 1) := by decide +kernel
theorem dX10_told_119 : decode cX10_told 119 = .ok (.aload_n 0, 1) := by decide +kernel
theorem dX10_told_120 : decode cX10_told 120 = .ok (.getfield 37, 3) := by decide +kernel
theorem dX10_told_123 : decode cX10_told 123 = .ok (.iconst 0, 1) := by decide +kernel
theorem dX10_told_124 : decode cX10_told 124 = .ok (.iaload, 1) := by decide +kernel
theorem dX10_told_125 : decode cX10_told 125 = .ok (.ireturn, 1) := by decide +kernel
theorem dX10_told_126 : decode cX10_told 126 = .ok (.aload_n 0, 1) := by decide +kernel
theorem dX10_told_127 : decode cX10_told 127 = .ok (.getfield 40, 3) := by decide +kernel
theorem dX10_told_130 : decode cX10_told 130 = .ok (.iconst 0, 1) := by decide +kernel
theorem dX10_told_131 : decode cX10_told 131 = .ok (.baload, 1) := by decide +kernel
theorem dX10_told_132 : decode cX10_told 132 = .ok (.ifCond .eq 7, 3) := by decide +kernel
theorem dX10_told_135 : decode cX10_told 135 = .ok (.iconst 1, 1) := by decide +kernel
theorem dX10_told_136 : decode cX10_told 136 = .ok (.goto 4, 3) := by decide +kernel
theorem dX10_told_139 : decode cX10_told 139 = .ok (.iconst 0, 1) := by decide +kernel
theorem dX10_told_140 : decode cX10_told 140 = .ok (.ireturn, 1) := by decide +kernel
theorem dX10_told_141 : decode cX10_told 141 = .ok (.aload_n 0, 1) := by decide +kernel
theorem dX10_told_142 : decode cX10_told 142 = .ok (.getfield 43, 3) := by decide +kernel
theorem dX10_told_145 : decode cX10_told 145 = .ok (.iconst 0, 1) := by decide +kernel
theorem dX10_told_146 : decode cX10_told 146 = .ok (.baload, 1) := by decide +kernel
theorem dX10_told_147 : decode cX10_told 147 = .ok (.ifCond .eq 7, 3) := by decide +kernel
theorem dX10_told_150 : decode cX10_told 150 = .ok (.iconst 1, 1) := by decide +kernel
theorem dX10_told_151 : decode cX10_told 151 = .ok (.goto 4, 3) := by decide +kernel
theorem dX10_told_154 : decode cX10_told 154 = .ok (.iconst 0, 1) := by decide +kernel
theorem dX10_told_155 : decode cX10_told 155 = .ok (.ireturn, 1) := by decide +kernel
theorem dX10_told_156 : decode cX10_told 156 = .ok (.aload_n 0, 1) := by decide +kernel
theorem dX10_told_157 : decode cX10_told 157 = .ok (.getfield 146, 3) := by decide +kernel
theorem dX10_told_160 : decode cX10_told 160 = .ok (.ireturn, 1) := by decide +kernel
theorem dX10_told_161 : decode cX10_told 161 = .ok (.iconst (-1), 1) := by decide +kernel
theorem dX10_told_162 : decode cX10_told 162 = .ok (.ireturn, 1) := by decide +kernel
end
section
/-! ===== the words of the tables that the walks use, by their places ===== -/
def zW : List Cond := lw_tbl.filter goodWord
theorem zW_of {w : Cond} (k : Nat) (h : lw_tbl[k]? = some w) (hg : goodWord w = true) : w ∈ zW := List.mem_filter.mpr ⟨List.mem_of_getElem? h, hg⟩
def zNw : List (String × Nat × MethodName × String) := [(RX9, 11, yX8_init, RX9), (RX9, 41, yX2_init, RX9), (RX7, 53, yX4_init, RX9), (RX5, 103, yX9_isKind, RX9), (RX6, 42, yX9_isKind, RX9), (RX2, 31, yX9_isActNumber, RX9), (RX7, 96, yX9_isActNumber, RX9), (RX7, 141, yX9_isMember, RX9), (RX7, 168, yX9_isKind, RX9), (RX3, 52, yX9_isKind, RX9), (RX0, 59, yX9_isMember, RX9), (RX1, 26, yX9_isSchool, RX9), (RX1, 30, yX9_isMember, RX9)]
theorem inX0 : ∀ w ∈ u_ws RX0 TX0 8, w ∈ zW := by
  intro w hw
  obtain ⟨k, hk, rfl⟩ := List.mem_map.mp hw
  have hk := List.mem_range.mp hk
  match k, hk with
  | 0, _ => exact zW_of 244 (by decide +kernel) rfl
  | 1, _ => exact zW_of 246 (by decide +kernel) rfl
  | 2, _ => exact zW_of 248 (by decide +kernel) rfl
  | 3, _ => exact zW_of 250 (by decide +kernel) rfl
  | 4, _ => exact zW_of 252 (by decide +kernel) rfl
  | 5, _ => exact zW_of 254 (by decide +kernel) rfl
  | 6, _ => exact zW_of 256 (by decide +kernel) rfl
  | 7, _ => exact zW_of 258 (by decide +kernel) rfl
  | k + 8, hk => omega
theorem inX1 : ∀ w ∈ u_ws RX1 TX1 4, w ∈ zW := by
  intro w hw
  obtain ⟨k, hk, rfl⟩ := List.mem_map.mp hw
  have hk := List.mem_range.mp hk
  match k, hk with
  | 0, _ => exact zW_of 410 (by decide +kernel) rfl
  | 1, _ => exact zW_of 412 (by decide +kernel) rfl
  | 2, _ => exact zW_of 414 (by decide +kernel) rfl
  | 3, _ => exact zW_of 416 (by decide +kernel) rfl
  | k + 4, hk => omega
theorem inX2 : ∀ w ∈ u_ws RX2 TX2 6, w ∈ zW := by
  intro w hw
  obtain ⟨k, hk, rfl⟩ := List.mem_map.mp hw
  have hk := List.mem_range.mp hk
  match k, hk with
  | 0, _ => exact zW_of 205 (by decide +kernel) rfl
  | 1, _ => exact zW_of 207 (by decide +kernel) rfl
  | 2, _ => exact zW_of 209 (by decide +kernel) rfl
  | 3, _ => exact zW_of 211 (by decide +kernel) rfl
  | 4, _ => exact zW_of 213 (by decide +kernel) rfl
  | 5, _ => exact zW_of 215 (by decide +kernel) rfl
  | k + 6, hk => omega
theorem inX3 : ∀ w ∈ u_ws RX3 TX3 9, w ∈ zW := by
  intro w hw
  obtain ⟨k, hk, rfl⟩ := List.mem_map.mp hw
  have hk := List.mem_range.mp hk
  match k, hk with
  | 0, _ => exact zW_of 281 (by decide +kernel) rfl
  | 1, _ => exact zW_of 283 (by decide +kernel) rfl
  | 2, _ => exact zW_of 285 (by decide +kernel) rfl
  | 3, _ => exact zW_of 287 (by decide +kernel) rfl
  | 4, _ => exact zW_of 289 (by decide +kernel) rfl
  | 5, _ => exact zW_of 291 (by decide +kernel) rfl
  | 6, _ => exact zW_of 293 (by decide +kernel) rfl
  | 7, _ => exact zW_of 295 (by decide +kernel) rfl
  | 8, _ => exact zW_of 297 (by decide +kernel) rfl
  | k + 9, hk => omega
theorem inX4 : ∀ w ∈ u_ws RX4 TX4 6, w ∈ zW := by
  intro w hw
  obtain ⟨k, hk, rfl⟩ := List.mem_map.mp hw
  have hk := List.mem_range.mp hk
  match k, hk with
  | 0, _ => exact zW_of 314 (by decide +kernel) rfl
  | 1, _ => exact zW_of 316 (by decide +kernel) rfl
  | 2, _ => exact zW_of 318 (by decide +kernel) rfl
  | 3, _ => exact zW_of 320 (by decide +kernel) rfl
  | 4, _ => exact zW_of 322 (by decide +kernel) rfl
  | 5, _ => exact zW_of 324 (by decide +kernel) rfl
  | k + 6, hk => omega
theorem inX5 : ∀ w ∈ u_ws RX5 TX5 5, w ∈ zW := by
  intro w hw
  obtain ⟨k, hk, rfl⟩ := List.mem_map.mp hw
  have hk := List.mem_range.mp hk
  match k, hk with
  | 0, _ => exact zW_of 176 (by decide +kernel) rfl
  | 1, _ => exact zW_of 178 (by decide +kernel) rfl
  | 2, _ => exact zW_of 180 (by decide +kernel) rfl
  | 3, _ => exact zW_of 182 (by decide +kernel) rfl
  | 4, _ => exact zW_of 184 (by decide +kernel) rfl
  | k + 5, hk => omega
theorem inX6 : ∀ w ∈ u_ws RX6 TX6 8, w ∈ zW := by
  intro w hw
  obtain ⟨k, hk, rfl⟩ := List.mem_map.mp hw
  have hk := List.mem_range.mp hk
  match k, hk with
  | 0, _ => exact zW_of 146 (by decide +kernel) rfl
  | 1, _ => exact zW_of 148 (by decide +kernel) rfl
  | 2, _ => exact zW_of 150 (by decide +kernel) rfl
  | 3, _ => exact zW_of 152 (by decide +kernel) rfl
  | 4, _ => exact zW_of 154 (by decide +kernel) rfl
  | 5, _ => exact zW_of 156 (by decide +kernel) rfl
  | 6, _ => exact zW_of 158 (by decide +kernel) rfl
  | 7, _ => exact zW_of 160 (by decide +kernel) rfl
  | k + 8, hk => omega
theorem inX7 : ∀ w ∈ u_ws RX7 TX7 16, w ∈ zW := by
  intro w hw
  obtain ⟨k, hk, rfl⟩ := List.mem_map.mp hw
  have hk := List.mem_range.mp hk
  match k, hk with
  | 0, _ => exact zW_of 363 (by decide +kernel) rfl
  | 1, _ => exact zW_of 365 (by decide +kernel) rfl
  | 2, _ => exact zW_of 367 (by decide +kernel) rfl
  | 3, _ => exact zW_of 369 (by decide +kernel) rfl
  | 4, _ => exact zW_of 371 (by decide +kernel) rfl
  | 5, _ => exact zW_of 373 (by decide +kernel) rfl
  | 6, _ => exact zW_of 375 (by decide +kernel) rfl
  | 7, _ => exact zW_of 377 (by decide +kernel) rfl
  | 8, _ => exact zW_of 379 (by decide +kernel) rfl
  | 9, _ => exact zW_of 381 (by decide +kernel) rfl
  | 10, _ => exact zW_of 383 (by decide +kernel) rfl
  | 11, _ => exact zW_of 385 (by decide +kernel) rfl
  | 12, _ => exact zW_of 387 (by decide +kernel) rfl
  | 13, _ => exact zW_of 389 (by decide +kernel) rfl
  | 14, _ => exact zW_of 391 (by decide +kernel) rfl
  | 15, _ => exact zW_of 393 (by decide +kernel) rfl
  | k + 16, hk => omega
theorem inX8 : ∀ w ∈ u_ws RX8 TX8 2, w ∈ zW := by
  intro w hw
  obtain ⟨k, hk, rfl⟩ := List.mem_map.mp hw
  have hk := List.mem_range.mp hk
  match k, hk with
  | 0, _ => exact zW_of 100 (by decide +kernel) rfl
  | 1, _ => exact zW_of 102 (by decide +kernel) rfl
  | k + 2, hk => omega
theorem inX9 : ∀ w ∈ u_ws RX9 TX9 10, w ∈ zW := by
  intro w hw
  obtain ⟨k, hk, rfl⟩ := List.mem_map.mp hw
  have hk := List.mem_range.mp hk
  match k, hk with
  | 0, _ => exact zW_of 429 (by decide +kernel) rfl
  | 1, _ => exact zW_of 431 (by decide +kernel) rfl
  | 2, _ => exact zW_of 433 (by decide +kernel) rfl
  | 3, _ => exact zW_of 435 (by decide +kernel) rfl
  | 4, _ => exact zW_of 437 (by decide +kernel) rfl
  | 5, _ => exact zW_of 439 (by decide +kernel) rfl
  | 6, _ => exact zW_of 441 (by decide +kernel) rfl
  | 7, _ => exact zW_of 443 (by decide +kernel) rfl
  | 8, _ => exact zW_of 445 (by decide +kernel) rfl
  | 9, _ => exact zW_of 447 (by decide +kernel) rfl
  | k + 10, hk => omega
theorem inX10 : ∀ w ∈ u_ws RX10 TX10 61, w ∈ zW := by
  intro w hw
  obtain ⟨k, hk, rfl⟩ := List.mem_map.mp hw
  have hk := List.mem_range.mp hk
  match k, hk with
  | 0, _ => exact zW_of 1051 (by decide +kernel) rfl
  | 1, _ => exact zW_of 1053 (by decide +kernel) rfl
  | 2, _ => exact zW_of 1055 (by decide +kernel) rfl
  | 3, _ => exact zW_of 1057 (by decide +kernel) rfl
  | 4, _ => exact zW_of 1059 (by decide +kernel) rfl
  | 5, _ => exact zW_of 1061 (by decide +kernel) rfl
  | 6, _ => exact zW_of 1063 (by decide +kernel) rfl
  | 7, _ => exact zW_of 1065 (by decide +kernel) rfl
  | 8, _ => exact zW_of 1067 (by decide +kernel) rfl
  | 9, _ => exact zW_of 1069 (by decide +kernel) rfl
  | 10, _ => exact zW_of 1071 (by decide +kernel) rfl
  | 11, _ => exact zW_of 1073 (by decide +kernel) rfl
  | 12, _ => exact zW_of 1075 (by decide +kernel) rfl
  | 13, _ => exact zW_of 1077 (by decide +kernel) rfl
  | 14, _ => exact zW_of 1079 (by decide +kernel) rfl
  | 15, _ => exact zW_of 1081 (by decide +kernel) rfl
  | 16, _ => exact zW_of 1083 (by decide +kernel) rfl
  | 17, _ => exact zW_of 1085 (by decide +kernel) rfl
  | 18, _ => exact zW_of 1087 (by decide +kernel) rfl
  | 19, _ => exact zW_of 1089 (by decide +kernel) rfl
  | 20, _ => exact zW_of 1091 (by decide +kernel) rfl
  | 21, _ => exact zW_of 1093 (by decide +kernel) rfl
  | 22, _ => exact zW_of 1095 (by decide +kernel) rfl
  | 23, _ => exact zW_of 1097 (by decide +kernel) rfl
  | 24, _ => exact zW_of 1099 (by decide +kernel) rfl
  | 25, _ => exact zW_of 1101 (by decide +kernel) rfl
  | 26, _ => exact zW_of 1103 (by decide +kernel) rfl
  | 27, _ => exact zW_of 1105 (by decide +kernel) rfl
  | 28, _ => exact zW_of 1107 (by decide +kernel) rfl
  | 29, _ => exact zW_of 1109 (by decide +kernel) rfl
  | 30, _ => exact zW_of 1111 (by decide +kernel) rfl
  | 31, _ => exact zW_of 1113 (by decide +kernel) rfl
  | 32, _ => exact zW_of 1115 (by decide +kernel) rfl
  | 33, _ => exact zW_of 1117 (by decide +kernel) rfl
  | 34, _ => exact zW_of 1119 (by decide +kernel) rfl
  | 35, _ => exact zW_of 1121 (by decide +kernel) rfl
  | 36, _ => exact zW_of 1123 (by decide +kernel) rfl
  | 37, _ => exact zW_of 1125 (by decide +kernel) rfl
  | 38, _ => exact zW_of 1127 (by decide +kernel) rfl
  | 39, _ => exact zW_of 1129 (by decide +kernel) rfl
  | 40, _ => exact zW_of 1131 (by decide +kernel) rfl
  | 41, _ => exact zW_of 1133 (by decide +kernel) rfl
  | 42, _ => exact zW_of 1135 (by decide +kernel) rfl
  | 43, _ => exact zW_of 1137 (by decide +kernel) rfl
  | 44, _ => exact zW_of 1139 (by decide +kernel) rfl
  | 45, _ => exact zW_of 1141 (by decide +kernel) rfl
  | 46, _ => exact zW_of 1143 (by decide +kernel) rfl
  | 47, _ => exact zW_of 1145 (by decide +kernel) rfl
  | 48, _ => exact zW_of 1147 (by decide +kernel) rfl
  | 49, _ => exact zW_of 1149 (by decide +kernel) rfl
  | 50, _ => exact zW_of 1151 (by decide +kernel) rfl
  | 51, _ => exact zW_of 1153 (by decide +kernel) rfl
  | 52, _ => exact zW_of 1155 (by decide +kernel) rfl
  | 53, _ => exact zW_of 1157 (by decide +kernel) rfl
  | 54, _ => exact zW_of 1159 (by decide +kernel) rfl
  | 55, _ => exact zW_of 1161 (by decide +kernel) rfl
  | 56, _ => exact zW_of 1163 (by decide +kernel) rfl
  | 57, _ => exact zW_of 1165 (by decide +kernel) rfl
  | 58, _ => exact zW_of 1167 (by decide +kernel) rfl
  | 59, _ => exact zW_of 1169 (by decide +kernel) rfl
  | 60, _ => exact zW_of 1171 (by decide +kernel) rfl
  | k + 61, hk => omega
theorem iz_RL : Cond.initialized RL ∈ zW := zW_of 64 (by decide +kernel) rfl
theorem iz_RX9 : Cond.initialized RX9 ∈ zW := zW_of 65 (by decide +kernel) rfl
theorem iz_RX8 : Cond.initialized RX8 ∈ zW := zW_of 66 (by decide +kernel) rfl
theorem iz_RX6 : Cond.initialized RX6 ∈ zW := zW_of 67 (by decide +kernel) rfl
theorem iz_RX5 : Cond.initialized RX5 ∈ zW := zW_of 68 (by decide +kernel) rfl
theorem iz_RX2 : Cond.initialized RX2 ∈ zW := zW_of 69 (by decide +kernel) rfl
theorem iz_RX7 : Cond.initialized RX7 ∈ zW := zW_of 70 (by decide +kernel) rfl
theorem iz_RX0 : Cond.initialized RX0 ∈ zW := zW_of 71 (by decide +kernel) rfl
theorem iz_RX3 : Cond.initialized RX3 ∈ zW := zW_of 72 (by decide +kernel) rfl
theorem iz_RX4 : Cond.initialized RX4 ∈ zW := zW_of 73 (by decide +kernel) rfl
theorem iz_RX1 : Cond.initialized RX1 ∈ zW := zW_of 74 (by decide +kernel) rfl
theorem iz_RX10 : Cond.initialized RX10 ∈ zW := zW_of 75 (by decide +kernel) rfl
theorem iz_RJ0 : Cond.initialized RJ0 ∈ zW := zW_of 76 (by decide +kernel) rfl
theorem iz_RJ1 : Cond.initialized RJ1 ∈ zW := zW_of 77 (by decide +kernel) rfl
theorem iz_RJ3 : Cond.initialized RJ3 ∈ zW := zW_of 78 (by decide +kernel) rfl
theorem iz_RJ2 : Cond.initialized RJ2 ∈ zW := zW_of 79 (by decide +kernel) rfl
theorem iz_RJ6 : Cond.initialized RJ6 ∈ zW := zW_of 80 (by decide +kernel) rfl
theorem iz_RJ9 : Cond.initialized RJ9 ∈ zW := zW_of 81 (by decide +kernel) rfl
theorem ml_RL_9 : Cond.methodLink RL 9 yX9_init ∈ zW := zW_of 84 (by decide +kernel) rfl
theorem fl_RX8_9 : Cond.fieldLink RX8 9 (TX8 0).1 (TX8 0).2.1 (TX8 0).2.2.1 ∈ zW := zW_of 96 (by decide +kernel) rfl
theorem fl_RX9_76 : Cond.fieldLink RX9 76 (TX8 1).1 (TX8 1).2.1 (TX8 1).2.2.1 ∈ zW := zW_of 97 (by decide +kernel) rfl
theorem fl_RX8_15 : Cond.fieldLink RX8 15 (TX8 1).1 (TX8 1).2.1 (TX8 1).2.2.1 ∈ zW := zW_of 98 (by decide +kernel) rfl
theorem fl_RX5_37 : Cond.fieldLink RX5 37 (TX8 1).1 (TX8 1).2.1 (TX8 1).2.2.1 ∈ zW := zW_of 99 (by decide +kernel) rfl
theorem ml_RX9_18 : Cond.methodLink RX9 18 yX6_init ∈ zW := zW_of 108 (by decide +kernel) rfl
theorem ml_RX6_25 : Cond.methodLink RX6 25 yX6_clear ∈ zW := zW_of 112 (by decide +kernel) rfl
theorem fl_RX6_9 : Cond.fieldLink RX6 9 (TX6 0).1 (TX6 0).2.1 (TX6 0).2.2.1 ∈ zW := zW_of 116 (by decide +kernel) rfl
theorem fl_RX5_116 : Cond.fieldLink RX5 116 (TX6 0).1 (TX6 0).2.1 (TX6 0).2.2.1 ∈ zW := zW_of 117 (by decide +kernel) rfl
theorem fl_RX9_181 : Cond.fieldLink RX9 181 (TX6 0).1 (TX6 0).2.1 (TX6 0).2.2.1 ∈ zW := zW_of 118 (by decide +kernel) rfl
theorem fl_RX6_15 : Cond.fieldLink RX6 15 (TX6 1).1 (TX6 1).2.1 (TX6 1).2.2.1 ∈ zW := zW_of 119 (by decide +kernel) rfl
theorem fl_RX5_132 : Cond.fieldLink RX5 132 (TX6 1).1 (TX6 1).2.1 (TX6 1).2.2.1 ∈ zW := zW_of 120 (by decide +kernel) rfl
theorem fl_RX3_56 : Cond.fieldLink RX3 56 (TX6 1).1 (TX6 1).2.1 (TX6 1).2.2.1 ∈ zW := zW_of 121 (by decide +kernel) rfl
theorem fl_RX9_184 : Cond.fieldLink RX9 184 (TX6 1).1 (TX6 1).2.1 (TX6 1).2.2.1 ∈ zW := zW_of 122 (by decide +kernel) rfl
theorem fl_RX7_268 : Cond.fieldLink RX7 268 (TX6 1).1 (TX6 1).2.1 (TX6 1).2.2.1 ∈ zW := zW_of 123 (by decide +kernel) rfl
theorem fl_RX6_18 : Cond.fieldLink RX6 18 (TX6 2).1 (TX6 2).2.1 (TX6 2).2.2.1 ∈ zW := zW_of 124 (by decide +kernel) rfl
theorem fl_RX5_119 : Cond.fieldLink RX5 119 (TX6 2).1 (TX6 2).2.1 (TX6 2).2.2.1 ∈ zW := zW_of 125 (by decide +kernel) rfl
theorem fl_RX3_63 : Cond.fieldLink RX3 63 (TX6 2).1 (TX6 2).2.1 (TX6 2).2.2.1 ∈ zW := zW_of 126 (by decide +kernel) rfl
theorem fl_RX6_22 : Cond.fieldLink RX6 22 (TX6 3).1 (TX6 3).2.1 (TX6 3).2.2.1 ∈ zW := zW_of 127 (by decide +kernel) rfl
theorem fl_RX5_125 : Cond.fieldLink RX5 125 (TX6 3).1 (TX6 3).2.1 (TX6 3).2.2.1 ∈ zW := zW_of 128 (by decide +kernel) rfl
theorem fl_RX3_66 : Cond.fieldLink RX3 66 (TX6 3).1 (TX6 3).2.1 (TX6 3).2.2.1 ∈ zW := zW_of 129 (by decide +kernel) rfl
theorem fl_RX7_80 : Cond.fieldLink RX7 80 (TX6 4).1 (TX6 4).2.1 (TX6 4).2.2.1 ∈ zW := zW_of 130 (by decide +kernel) rfl
theorem fl_RX6_28 : Cond.fieldLink RX6 28 (TX6 4).1 (TX6 4).2.1 (TX6 4).2.2.1 ∈ zW := zW_of 131 (by decide +kernel) rfl
theorem fl_RX5_67 : Cond.fieldLink RX5 67 (TX6 4).1 (TX6 4).2.1 (TX6 4).2.2.1 ∈ zW := zW_of 132 (by decide +kernel) rfl
theorem fl_RX9_187 : Cond.fieldLink RX9 187 (TX6 4).1 (TX6 4).2.1 (TX6 4).2.2.1 ∈ zW := zW_of 133 (by decide +kernel) rfl
theorem fl_RX6_32 : Cond.fieldLink RX6 32 (TX6 5).1 (TX6 5).2.1 (TX6 5).2.2.1 ∈ zW := zW_of 134 (by decide +kernel) rfl
theorem fl_RX5_71 : Cond.fieldLink RX5 71 (TX6 5).1 (TX6 5).2.1 (TX6 5).2.2.1 ∈ zW := zW_of 135 (by decide +kernel) rfl
theorem fl_RX7_156 : Cond.fieldLink RX7 156 (TX6 5).1 (TX6 5).2.1 (TX6 5).2.2.1 ∈ zW := zW_of 136 (by decide +kernel) rfl
theorem fl_RX9_188 : Cond.fieldLink RX9 188 (TX6 5).1 (TX6 5).2.1 (TX6 5).2.2.1 ∈ zW := zW_of 137 (by decide +kernel) rfl
theorem fl_RX6_35 : Cond.fieldLink RX6 35 (TX6 6).1 (TX6 6).2.1 (TX6 6).2.2.1 ∈ zW := zW_of 138 (by decide +kernel) rfl
theorem fl_RX5_83 : Cond.fieldLink RX5 83 (TX6 6).1 (TX6 6).2.1 (TX6 6).2.2.1 ∈ zW := zW_of 139 (by decide +kernel) rfl
theorem fl_RX0_72 : Cond.fieldLink RX0 72 (TX6 6).1 (TX6 6).2.1 (TX6 6).2.2.1 ∈ zW := zW_of 140 (by decide +kernel) rfl
theorem fl_RX9_191 : Cond.fieldLink RX9 191 (TX6 6).1 (TX6 6).2.1 (TX6 6).2.2.1 ∈ zW := zW_of 141 (by decide +kernel) rfl
theorem fl_RX6_39 : Cond.fieldLink RX6 39 (TX6 7).1 (TX6 7).2.1 (TX6 7).2.2.1 ∈ zW := zW_of 142 (by decide +kernel) rfl
theorem fl_RX5_93 : Cond.fieldLink RX5 93 (TX6 7).1 (TX6 7).2.1 (TX6 7).2.2.1 ∈ zW := zW_of 143 (by decide +kernel) rfl
theorem fl_RX0_46 : Cond.fieldLink RX0 46 (TX6 7).1 (TX6 7).2.1 (TX6 7).2.2.1 ∈ zW := zW_of 144 (by decide +kernel) rfl
theorem fl_RX9_195 : Cond.fieldLink RX9 195 (TX6 7).1 (TX6 7).2.1 (TX6 7).2.2.1 ∈ zW := zW_of 145 (by decide +kernel) rfl
theorem ml_RX9_28 : Cond.methodLink RX9 28 yX5_init ∈ zW := zW_of 167 (by decide +kernel) rfl
theorem fl_RX5_9 : Cond.fieldLink RX5 9 (TX5 0).1 (TX5 0).2.1 (TX5 0).2.2.1 ∈ zW := zW_of 171 (by decide +kernel) rfl
theorem fl_RX5_15 : Cond.fieldLink RX5 15 (TX5 1).1 (TX5 1).2.1 (TX5 1).2.2.1 ∈ zW := zW_of 172 (by decide +kernel) rfl
theorem fl_RX5_19 : Cond.fieldLink RX5 19 (TX5 2).1 (TX5 2).2.1 (TX5 2).2.2.1 ∈ zW := zW_of 173 (by decide +kernel) rfl
theorem fl_RX5_23 : Cond.fieldLink RX5 23 (TX5 3).1 (TX5 3).2.1 (TX5 3).2.2.1 ∈ zW := zW_of 174 (by decide +kernel) rfl
theorem fl_RX5_26 : Cond.fieldLink RX5 26 (TX5 4).1 (TX5 4).2.1 (TX5 4).2.2.1 ∈ zW := zW_of 175 (by decide +kernel) rfl
theorem fl_RX2_9 : Cond.fieldLink RX2 9 (TX2 0).1 (TX2 0).2.1 (TX2 0).2.2.1 ∈ zW := zW_of 193 (by decide +kernel) rfl
theorem fl_RX7_115 : Cond.fieldLink RX7 115 (TX2 0).1 (TX2 0).2.1 (TX2 0).2.2.1 ∈ zW := zW_of 194 (by decide +kernel) rfl
theorem fl_RX2_15 : Cond.fieldLink RX2 15 (TX2 1).1 (TX2 1).2.1 (TX2 1).2.2.1 ∈ zW := zW_of 195 (by decide +kernel) rfl
theorem fl_RX7_150 : Cond.fieldLink RX7 150 (TX2 1).1 (TX2 1).2.1 (TX2 1).2.2.1 ∈ zW := zW_of 196 (by decide +kernel) rfl
theorem fl_RX2_18 : Cond.fieldLink RX2 18 (TX2 2).1 (TX2 2).2.1 (TX2 2).2.2.1 ∈ zW := zW_of 197 (by decide +kernel) rfl
theorem fl_RX7_165 : Cond.fieldLink RX7 165 (TX2 2).1 (TX2 2).2.1 (TX2 2).2.2.1 ∈ zW := zW_of 198 (by decide +kernel) rfl
theorem fl_RX2_21 : Cond.fieldLink RX2 21 (TX2 3).1 (TX2 3).2.1 (TX2 3).2.2.1 ∈ zW := zW_of 199 (by decide +kernel) rfl
theorem fl_RX7_159 : Cond.fieldLink RX7 159 (TX2 3).1 (TX2 3).2.1 (TX2 3).2.2.1 ∈ zW := zW_of 200 (by decide +kernel) rfl
theorem fl_RX2_24 : Cond.fieldLink RX2 24 (TX2 4).1 (TX2 4).2.1 (TX2 4).2.2.1 ∈ zW := zW_of 201 (by decide +kernel) rfl
theorem fl_RX7_162 : Cond.fieldLink RX7 162 (TX2 4).1 (TX2 4).2.1 (TX2 4).2.2.1 ∈ zW := zW_of 202 (by decide +kernel) rfl
theorem fl_RX2_27 : Cond.fieldLink RX2 27 (TX2 5).1 (TX2 5).2.1 (TX2 5).2.2.1 ∈ zW := zW_of 203 (by decide +kernel) rfl
theorem fl_RX9_84 : Cond.fieldLink RX9 84 (TX2 5).1 (TX2 5).2.1 (TX2 5).2.2.1 ∈ zW := zW_of 204 (by decide +kernel) rfl
theorem ml_RX9_48 : Cond.methodLink RX9 48 yX7_init ∈ zW := zW_of 220 (by decide +kernel) rfl
theorem ml_RX7_35 : Cond.methodLink RX7 35 yX0_init ∈ zW := zW_of 226 (by decide +kernel) rfl
theorem fl_RX0_22 : Cond.fieldLink RX0 22 (TX0 0).1 (TX0 0).2.1 (TX0 0).2.2.1 ∈ zW := zW_of 230 (by decide +kernel) rfl
theorem fl_RX0_26 : Cond.fieldLink RX0 26 (TX0 1).1 (TX0 1).2.1 (TX0 1).2.2.1 ∈ zW := zW_of 231 (by decide +kernel) rfl
theorem fl_RX0_9 : Cond.fieldLink RX0 9 (TX0 2).1 (TX0 2).2.1 (TX0 2).2.2.1 ∈ zW := zW_of 232 (by decide +kernel) rfl
theorem fl_RX0_15 : Cond.fieldLink RX0 15 (TX0 3).1 (TX0 3).2.1 (TX0 3).2.2.1 ∈ zW := zW_of 233 (by decide +kernel) rfl
theorem fl_RX9_150 : Cond.fieldLink RX9 150 (TX0 3).1 (TX0 3).2.1 (TX0 3).2.2.1 ∈ zW := zW_of 234 (by decide +kernel) rfl
theorem fl_RX0_29 : Cond.fieldLink RX0 29 (TX0 4).1 (TX0 4).2.1 (TX0 4).2.2.1 ∈ zW := zW_of 235 (by decide +kernel) rfl
theorem fl_RX7_128 : Cond.fieldLink RX7 128 (TX0 4).1 (TX0 4).2.1 (TX0 4).2.2.1 ∈ zW := zW_of 236 (by decide +kernel) rfl
theorem fl_RX9_153 : Cond.fieldLink RX9 153 (TX0 4).1 (TX0 4).2.1 (TX0 4).2.2.1 ∈ zW := zW_of 237 (by decide +kernel) rfl
theorem fl_RX0_18 : Cond.fieldLink RX0 18 (TX0 5).1 (TX0 5).2.1 (TX0 5).2.2.1 ∈ zW := zW_of 238 (by decide +kernel) rfl
theorem fl_RX7_131 : Cond.fieldLink RX7 131 (TX0 5).1 (TX0 5).2.1 (TX0 5).2.2.1 ∈ zW := zW_of 239 (by decide +kernel) rfl
theorem fl_RX9_165 : Cond.fieldLink RX9 165 (TX0 5).1 (TX0 5).2.1 (TX0 5).2.2.1 ∈ zW := zW_of 240 (by decide +kernel) rfl
theorem fl_RX0_35 : Cond.fieldLink RX0 35 (TX0 6).1 (TX0 6).2.1 (TX0 6).2.2.1 ∈ zW := zW_of 241 (by decide +kernel) rfl
theorem fl_RX7_134 : Cond.fieldLink RX7 134 (TX0 6).1 (TX0 6).2.1 (TX0 6).2.2.1 ∈ zW := zW_of 242 (by decide +kernel) rfl
theorem fl_RX0_38 : Cond.fieldLink RX0 38 (TX0 7).1 (TX0 7).2.1 (TX0 7).2.2.1 ∈ zW := zW_of 243 (by decide +kernel) rfl
theorem ml_RX7_44 : Cond.methodLink RX7 44 yX3_init ∈ zW := zW_of 263 (by decide +kernel) rfl
theorem fl_RX3_34 : Cond.fieldLink RX3 34 (TX3 0).1 (TX3 0).2.1 (TX3 0).2.2.1 ∈ zW := zW_of 267 (by decide +kernel) rfl
theorem fl_RX3_9 : Cond.fieldLink RX3 9 (TX3 1).1 (TX3 1).2.1 (TX3 1).2.2.1 ∈ zW := zW_of 268 (by decide +kernel) rfl
theorem fl_RX7_250 : Cond.fieldLink RX7 250 (TX3 1).1 (TX3 1).2.1 (TX3 1).2.2.1 ∈ zW := zW_of 269 (by decide +kernel) rfl
theorem fl_RX3_15 : Cond.fieldLink RX3 15 (TX3 2).1 (TX3 2).2.1 (TX3 2).2.2.1 ∈ zW := zW_of 270 (by decide +kernel) rfl
theorem fl_RX3_18 : Cond.fieldLink RX3 18 (TX3 3).1 (TX3 3).2.1 (TX3 3).2.2.1 ∈ zW := zW_of 271 (by decide +kernel) rfl
theorem fl_RX7_262 : Cond.fieldLink RX7 262 (TX3 3).1 (TX3 3).2.1 (TX3 3).2.2.1 ∈ zW := zW_of 272 (by decide +kernel) rfl
theorem fl_RX3_21 : Cond.fieldLink RX3 21 (TX3 4).1 (TX3 4).2.1 (TX3 4).2.2.1 ∈ zW := zW_of 273 (by decide +kernel) rfl
theorem fl_RX7_263 : Cond.fieldLink RX7 263 (TX3 4).1 (TX3 4).2.1 (TX3 4).2.2.1 ∈ zW := zW_of 274 (by decide +kernel) rfl
theorem fl_RX3_24 : Cond.fieldLink RX3 24 (TX3 5).1 (TX3 5).2.1 (TX3 5).2.2.1 ∈ zW := zW_of 275 (by decide +kernel) rfl
theorem fl_RX7_255 : Cond.fieldLink RX7 255 (TX3 5).1 (TX3 5).2.1 (TX3 5).2.2.1 ∈ zW := zW_of 276 (by decide +kernel) rfl
theorem fl_RX3_27 : Cond.fieldLink RX3 27 (TX3 6).1 (TX3 6).2.1 (TX3 6).2.2.1 ∈ zW := zW_of 277 (by decide +kernel) rfl
theorem fl_RX3_31 : Cond.fieldLink RX3 31 (TX3 7).1 (TX3 7).2.1 (TX3 7).2.2.1 ∈ zW := zW_of 278 (by decide +kernel) rfl
theorem fl_RX3_38 : Cond.fieldLink RX3 38 (TX3 8).1 (TX3 8).2.1 (TX3 8).2.2.1 ∈ zW := zW_of 279 (by decide +kernel) rfl
theorem fl_RX7_64 : Cond.fieldLink RX7 64 (TX3 8).1 (TX3 8).2.1 (TX3 8).2.2.1 ∈ zW := zW_of 280 (by decide +kernel) rfl
theorem fl_RX4_9 : Cond.fieldLink RX4 9 (TX4 0).1 (TX4 0).2.1 (TX4 0).2.2.1 ∈ zW := zW_of 306 (by decide +kernel) rfl
theorem fl_RX4_15 : Cond.fieldLink RX4 15 (TX4 1).1 (TX4 1).2.1 (TX4 1).2.2.1 ∈ zW := zW_of 307 (by decide +kernel) rfl
theorem fl_RX4_18 : Cond.fieldLink RX4 18 (TX4 2).1 (TX4 2).2.1 (TX4 2).2.2.1 ∈ zW := zW_of 308 (by decide +kernel) rfl
theorem fl_RX4_21 : Cond.fieldLink RX4 21 (TX4 3).1 (TX4 3).2.1 (TX4 3).2.2.1 ∈ zW := zW_of 309 (by decide +kernel) rfl
theorem fl_RX7_137 : Cond.fieldLink RX7 137 (TX4 3).1 (TX4 3).2.1 (TX4 3).2.2.1 ∈ zW := zW_of 310 (by decide +kernel) rfl
theorem fl_RX4_25 : Cond.fieldLink RX4 25 (TX4 4).1 (TX4 4).2.1 (TX4 4).2.2.1 ∈ zW := zW_of 311 (by decide +kernel) rfl
theorem fl_RX4_29 : Cond.fieldLink RX4 29 (TX4 5).1 (TX4 5).2.1 (TX4 5).2.2.1 ∈ zW := zW_of 312 (by decide +kernel) rfl
theorem fl_RX7_140 : Cond.fieldLink RX7 140 (TX4 5).1 (TX4 5).2.1 (TX4 5).2.2.1 ∈ zW := zW_of 313 (by decide +kernel) rfl
theorem ml_RX7_58 : Cond.methodLink RX7 58 yX7_startAnew ∈ zW := zW_of 327 (by decide +kernel) rfl
theorem ml_RX7_61 : Cond.methodLink RX7 61 yX0_clear ∈ zW := zW_of 331 (by decide +kernel) rfl
theorem ml_RX0_32 : Cond.methodLink RX0 32 yX0_setFree ∈ zW := zW_of 335 (by decide +kernel) rfl
theorem ml_RX7_68 : Cond.methodLink RX7 68 yX4_takeAway ∈ zW := zW_of 339 (by decide +kernel) rfl
theorem fl_RX7_25 : Cond.fieldLink RX7 25 (TX7 0).1 (TX7 0).2.1 (TX7 0).2.2.1 ∈ zW := zW_of 343 (by decide +kernel) rfl
theorem fl_RX7_29 : Cond.fieldLink RX7 29 (TX7 1).1 (TX7 1).2.1 (TX7 1).2.2.1 ∈ zW := zW_of 344 (by decide +kernel) rfl
theorem fl_RX7_38 : Cond.fieldLink RX7 38 (TX7 2).1 (TX7 2).2.1 (TX7 2).2.2.1 ∈ zW := zW_of 345 (by decide +kernel) rfl
theorem fl_RX9_147 : Cond.fieldLink RX9 147 (TX7 2).1 (TX7 2).2.1 (TX7 2).2.2.1 ∈ zW := zW_of 346 (by decide +kernel) rfl
theorem fl_RX7_47 : Cond.fieldLink RX7 47 (TX7 3).1 (TX7 3).2.1 (TX7 3).2.2.1 ∈ zW := zW_of 347 (by decide +kernel) rfl
theorem fl_RX9_123 : Cond.fieldLink RX9 123 (TX7 3).1 (TX7 3).2.1 (TX7 3).2.2.1 ∈ zW := zW_of 348 (by decide +kernel) rfl
theorem fl_RX7_54 : Cond.fieldLink RX7 54 (TX7 4).1 (TX7 4).2.1 (TX7 4).2.2.1 ∈ zW := zW_of 349 (by decide +kernel) rfl
theorem fl_RX9_132 : Cond.fieldLink RX9 132 (TX7 4).1 (TX7 4).2.1 (TX7 4).2.2.1 ∈ zW := zW_of 350 (by decide +kernel) rfl
theorem fl_RX7_9 : Cond.fieldLink RX7 9 (TX7 5).1 (TX7 5).2.1 (TX7 5).2.2.1 ∈ zW := zW_of 351 (by decide +kernel) rfl
theorem fl_RX7_15 : Cond.fieldLink RX7 15 (TX7 6).1 (TX7 6).2.1 (TX7 6).2.2.1 ∈ zW := zW_of 352 (by decide +kernel) rfl
theorem fl_RX7_18 : Cond.fieldLink RX7 18 (TX7 7).1 (TX7 7).2.1 (TX7 7).2.2.1 ∈ zW := zW_of 353 (by decide +kernel) rfl
theorem fl_RX7_22 : Cond.fieldLink RX7 22 (TX7 8).1 (TX7 8).2.1 (TX7 8).2.2.1 ∈ zW := zW_of 354 (by decide +kernel) rfl
theorem fl_RX7_71 : Cond.fieldLink RX7 71 (TX7 9).1 (TX7 9).2.1 (TX7 9).2.2.1 ∈ zW := zW_of 355 (by decide +kernel) rfl
theorem fl_RX7_74 : Cond.fieldLink RX7 74 (TX7 10).1 (TX7 10).2.1 (TX7 10).2.2.1 ∈ zW := zW_of 356 (by decide +kernel) rfl
theorem fl_RX7_77 : Cond.fieldLink RX7 77 (TX7 11).1 (TX7 11).2.1 (TX7 11).2.2.1 ∈ zW := zW_of 357 (by decide +kernel) rfl
theorem fl_RX7_85 : Cond.fieldLink RX7 85 (TX7 12).1 (TX7 12).2.1 (TX7 12).2.2.1 ∈ zW := zW_of 358 (by decide +kernel) rfl
theorem fl_RX9_159 : Cond.fieldLink RX9 159 (TX7 12).1 (TX7 12).2.1 (TX7 12).2.2.1 ∈ zW := zW_of 359 (by decide +kernel) rfl
theorem fl_RX7_86 : Cond.fieldLink RX7 86 (TX7 13).1 (TX7 13).2.1 (TX7 13).2.2.1 ∈ zW := zW_of 360 (by decide +kernel) rfl
theorem fl_RX7_89 : Cond.fieldLink RX7 89 (TX7 14).1 (TX7 14).2.1 (TX7 14).2.2.1 ∈ zW := zW_of 361 (by decide +kernel) rfl
theorem fl_RX7_92 : Cond.fieldLink RX7 92 (TX7 15).1 (TX7 15).2.1 (TX7 15).2.2.1 ∈ zW := zW_of 362 (by decide +kernel) rfl
theorem ml_RX9_60 : Cond.methodLink RX9 60 yX0_init ∈ zW := zW_of 397 (by decide +kernel) rfl
theorem ml_RX9_69 : Cond.methodLink RX9 69 yX1_init ∈ zW := zW_of 400 (by decide +kernel) rfl
theorem fl_RX1_23 : Cond.fieldLink RX1 23 (TX1 0).1 (TX1 0).2.1 (TX1 0).2.2.1 ∈ zW := zW_of 406 (by decide +kernel) rfl
theorem fl_RX1_9 : Cond.fieldLink RX1 9 (TX1 1).1 (TX1 1).2.1 (TX1 1).2.2.1 ∈ zW := zW_of 407 (by decide +kernel) rfl
theorem fl_RX1_17 : Cond.fieldLink RX1 17 (TX1 2).1 (TX1 2).2.1 (TX1 2).2.2.1 ∈ zW := zW_of 408 (by decide +kernel) rfl
theorem fl_RX1_20 : Cond.fieldLink RX1 20 (TX1 3).1 (TX1 3).2.1 (TX1 3).2.2.1 ∈ zW := zW_of 409 (by decide +kernel) rfl
theorem fl_RX9_12 : Cond.fieldLink RX9 12 (TX9 0).1 (TX9 0).2.1 (TX9 0).2.2.1 ∈ zW := zW_of 419 (by decide +kernel) rfl
theorem fl_RX9_19 : Cond.fieldLink RX9 19 (TX9 1).1 (TX9 1).2.1 (TX9 1).2.2.1 ∈ zW := zW_of 420 (by decide +kernel) rfl
theorem fl_RX9_23 : Cond.fieldLink RX9 23 (TX9 2).1 (TX9 2).2.1 (TX9 2).2.2.1 ∈ zW := zW_of 421 (by decide +kernel) rfl
theorem fl_RX9_31 : Cond.fieldLink RX9 31 (TX9 3).1 (TX9 3).2.1 (TX9 3).2.2.1 ∈ zW := zW_of 422 (by decide +kernel) rfl
theorem fl_RX9_35 : Cond.fieldLink RX9 35 (TX9 4).1 (TX9 4).2.1 (TX9 4).2.2.1 ∈ zW := zW_of 423 (by decide +kernel) rfl
theorem fl_RX9_42 : Cond.fieldLink RX9 42 (TX9 5).1 (TX9 5).2.1 (TX9 5).2.2.1 ∈ zW := zW_of 424 (by decide +kernel) rfl
theorem fl_RX9_51 : Cond.fieldLink RX9 51 (TX9 6).1 (TX9 6).2.1 (TX9 6).2.2.1 ∈ zW := zW_of 425 (by decide +kernel) rfl
theorem fl_RX9_55 : Cond.fieldLink RX9 55 (TX9 7).1 (TX9 7).2.1 (TX9 7).2.2.1 ∈ zW := zW_of 426 (by decide +kernel) rfl
theorem fl_RX9_63 : Cond.fieldLink RX9 63 (TX9 8).1 (TX9 8).2.1 (TX9 8).2.2.1 ∈ zW := zW_of 427 (by decide +kernel) rfl
theorem fl_RX9_72 : Cond.fieldLink RX9 72 (TX9 9).1 (TX9 9).2.1 (TX9 9).2.2.1 ∈ zW := zW_of 428 (by decide +kernel) rfl
theorem ml_RL_13 : Cond.methodLink RL 13 yX9_feed ∈ zW := zW_of 450 (by decide +kernel) rfl
theorem ml_RX9_80 : Cond.methodLink RX9 80 yX8_append ∈ zW := zW_of 454 (by decide +kernel) rfl
theorem ml_RL_18 : Cond.methodLink RL 18 yX9_end ∈ zW := zW_of 458 (by decide +kernel) rfl
theorem ml_RL_23 : Cond.methodLink RL 23 yX9_rules ∈ zW := zW_of 462 (by decide +kernel) rfl
theorem ml_RX9_87 : Cond.methodLink RX9 87 yX5_readTape ∈ zW := zW_of 466 (by decide +kernel) rfl
theorem ml_RX5_29 : Cond.methodLink RX5 29 yX6_clear ∈ zW := zW_of 470 (by decide +kernel) rfl
theorem ml_RX5_34 : Cond.methodLink RX5 34 yX5_skipBlanks ∈ zW := zW_of 471 (by decide +kernel) rfl
theorem ml_RX5_145 : Cond.methodLink RX5 145 yX8_byteAt ∈ zW := zW_of 475 (by decide +kernel) rfl
theorem ml_RX5_42 : Cond.methodLink RX5 42 yX5_readClause ∈ zW := zW_of 479 (by decide +kernel) rfl
theorem ml_RX5_50 : Cond.methodLink RX5 50 yX5_tookWord ∈ zW := zW_of 484 (by decide +kernel) rfl
theorem ml_RX5_152 : Cond.methodLink RX5 152 yJ0_length_8abf5 ∈ zW := zW_of 488 (by decide +kernel) rfl
theorem ml_RJ0_335 : Cond.methodLink RJ0 335 yJ0_coder_7d493 ∈ zW := zW_of 492 (by decide +kernel) rfl
theorem ml_RX5_156 : Cond.methodLink RX5 156 yJ0_charAt_5068e ∈ zW := zW_of 498 (by decide +kernel) rfl
theorem ml_RJ0_492 : Cond.methodLink RJ0 492 yJ0_isLatin1_aae02 ∈ zW := zW_of 502 (by decide +kernel) rfl
theorem ml_RJ0_495 : Cond.methodLink RJ0 495 yJ1_charAt_3b067 ∈ zW := zW_of 506 (by decide +kernel) rfl
theorem ml_RJ1_9 : Cond.methodLink RJ1 9 yJ0_checkIndex_df160 ∈ zW := zW_of 509 (by decide +kernel) rfl
theorem ml_RJ0_1059 : Cond.methodLink RJ0 1059 yJ3_checkIndex_8e157 ∈ zW := zW_of 514 (by decide +kernel) rfl
theorem ml_RJ0_498 : Cond.methodLink RJ0 498 yJ2_charAt_3b067 ∈ zW := zW_of 517 (by decide +kernel) rfl
theorem ml_RJ2_67 : Cond.methodLink RJ2 67 yJ2_checkIndex_2214a ∈ zW := zW_of 520 (by decide +kernel) rfl
theorem ml_RJ2_48 : Cond.methodLink RJ2 48 yJ2_length_9d52b ∈ zW := zW_of 523 (by decide +kernel) rfl
theorem ml_RJ2_414 : Cond.methodLink RJ2 414 yJ0_checkIndex_df160 ∈ zW := zW_of 526 (by decide +kernel) rfl
theorem ml_RJ2_71 : Cond.methodLink RJ2 71 yJ2_getChar_3b067 ∈ zW := zW_of 527 (by decide +kernel) rfl
theorem ml_RX5_160 : Cond.methodLink RX5 160 yX5_isSmallLetter ∈ zW := zW_of 536 (by decide +kernel) rfl
theorem ml_RX5_54 : Cond.methodLink RX5 54 yX5_readMotion ∈ zW := zW_of 539 (by decide +kernel) rfl
theorem ml_RX5_99 : Cond.methodLink RX5 99 yX5_readKind ∈ zW := zW_of 543 (by decide +kernel) rfl
theorem ml_RX5_138 : Cond.methodLink RX5 138 yX5_kindWord ∈ zW := zW_of 547 (by decide +kernel) rfl
theorem ml_RX5_96 : Cond.methodLink RX5 96 yX5_fail ∈ zW := zW_of 561 (by decide +kernel) rfl
theorem ml_RX5_107 : Cond.methodLink RX5 107 yX6_lets ∈ zW := zW_of 565 (by decide +kernel) rfl
theorem ml_RX5_112 : Cond.methodLink RX5 112 yX5_expectWord ∈ zW := zW_of 571 (by decide +kernel) rfl
theorem ml_RX5_63 : Cond.methodLink RX5 63 yX5_readNumber ∈ zW := zW_of 575 (by decide +kernel) rfl
theorem ml_RX5_149 : Cond.methodLink RX5 149 yX5_isDigit ∈ zW := zW_of 579 (by decide +kernel) rfl
theorem ml_RX5_135 : Cond.methodLink RX5 135 yX5_readWay ∈ zW := zW_of 585 (by decide +kernel) rfl
theorem ml_RX5_142 : Cond.methodLink RX5 142 yX5_wayWord ∈ zW := zW_of 589 (by decide +kernel) rfl
theorem ml_RX5_59 : Cond.methodLink RX5 59 yX5_tellOnce ∈ zW := zW_of 597 (by decide +kernel) rfl
theorem ml_RX5_79 : Cond.methodLink RX5 79 yX5_readChoice ∈ zW := zW_of 605 (by decide +kernel) rfl
theorem ml_RX5_45 : Cond.methodLink RX5 45 yX5_expectSemicolon ∈ zW := zW_of 612 (by decide +kernel) rfl
theorem ml_RX9_91 : Cond.methodLink RX9 91 yX6_copyFrom ∈ zW := zW_of 616 (by decide +kernel) rfl
theorem ml_RX9_95 : Cond.methodLink RX9 95 yX7_startAnew ∈ zW := zW_of 620 (by decide +kernel) rfl
theorem ml_RL_28 : Cond.methodLink RL 28 yX9_school ∈ zW := zW_of 621 (by decide +kernel) rfl
theorem ml_RX9_98 : Cond.methodLink RX9 98 yX9_isMember ∈ zW := zW_of 625 (by decide +kernel) rfl
theorem ml_RX9_102 : Cond.methodLink RX9 102 yX9_isSchool ∈ zW := zW_of 628 (by decide +kernel) rfl
theorem ml_RL_33 : Cond.methodLink RL 33 yX9_act ∈ zW := zW_of 631 (by decide +kernel) rfl
theorem ml_RX9_105 : Cond.methodLink RX9 105 yX2_add ∈ zW := zW_of 635 (by decide +kernel) rfl
theorem ml_RX9_109 : Cond.methodLink RX9 109 yX7_work ∈ zW := zW_of 642 (by decide +kernel) rfl
theorem ml_RX7_100 : Cond.methodLink RX7 100 yX7_refusalAtLarge ∈ zW := zW_of 647 (by decide +kernel) rfl
theorem ml_RX7_144 : Cond.methodLink RX7 144 yX7_numbersAreAsTold ∈ zW := zW_of 651 (by decide +kernel) rfl
theorem ml_RX7_147 : Cond.methodLink RX7 147 yX7_isOfMember ∈ zW := zW_of 657 (by decide +kernel) rfl
theorem ml_RX7_153 : Cond.methodLink RX7 153 yX7_isThere ∈ zW := zW_of 660 (by decide +kernel) rfl
theorem ml_RX7_123 : Cond.methodLink RX7 123 yJ6_bitCount_0f7a4 ∈ zW := zW_of 664 (by decide +kernel) rfl
theorem co_RJ6_265 : Cond.constant RJ6 265 1431655765 ∈ zW := zW_of 667 (by decide +kernel) rfl
theorem co_RJ6_266 : Cond.constant RJ6 266 858993459 ∈ zW := zW_of 668 (by decide +kernel) rfl
theorem co_RJ6_267 : Cond.constant RJ6 267 252645135 ∈ zW := zW_of 669 (by decide +kernel) rfl
theorem ml_RX7_104 : Cond.methodLink RX7 104 yX7_isInOrder ∈ zW := zW_of 670 (by decide +kernel) rfl
theorem ml_RX7_171 : Cond.methodLink RX7 171 yX0_mayAsk ∈ zW := zW_of 674 (by decide +kernel) rfl
theorem ml_RX0_42 : Cond.methodLink RX0 42 yX0_queuePlaceOf ∈ zW := zW_of 678 (by decide +kernel) rfl
theorem ml_RX7_174 : Cond.methodLink RX7 174 yX0_mayYieldTo ∈ zW := zW_of 682 (by decide +kernel) rfl
theorem ml_RX7_177 : Cond.methodLink RX7 177 yX7_mayMove ∈ zW := zW_of 686 (by decide +kernel) rfl
theorem ml_RX7_187 : Cond.methodLink RX7 187 yX6_lets ∈ zW := zW_of 690 (by decide +kernel) rfl
theorem ml_RX7_190 : Cond.methodLink RX7 190 yX3_isFull ∈ zW := zW_of 691 (by decide +kernel) rfl
theorem ml_RX7_194 : Cond.methodLink RX7 194 yX3_has ∈ zW := zW_of 695 (by decide +kernel) rfl
theorem ml_RX7_197 : Cond.methodLink RX7 197 yX7_mayAppeal ∈ zW := zW_of 699 (by decide +kernel) rfl
theorem ml_RX7_120 : Cond.methodLink RX7 120 yX7_isWorked ∈ zW := zW_of 703 (by decide +kernel) rfl
theorem ml_RX7_200 : Cond.methodLink RX7 200 yX3_isOutrankedBy ∈ zW := zW_of 707 (by decide +kernel) rfl
theorem ml_RX3_42 : Cond.methodLink RX3 42 yX3_top ∈ zW := zW_of 711 (by decide +kernel) rfl
theorem ml_RX3_46 : Cond.methodLink RX3 46 yX6_rankOf ∈ zW := zW_of 715 (by decide +kernel) rfl
theorem ml_RX7_203 : Cond.methodLink RX7 203 yX7_mayMoveKind ∈ zW := zW_of 719 (by decide +kernel) rfl
theorem ml_RX7_206 : Cond.methodLink RX7 206 yX4_mayAmend ∈ zW := zW_of 723 (by decide +kernel) rfl
theorem ml_RX4_39 : Cond.methodLink RX4 39 yX4_isThere ∈ zW := zW_of 727 (by decide +kernel) rfl
theorem ml_RX4_43 : Cond.methodLink RX4 43 yX4_behind ∈ zW := zW_of 731 (by decide +kernel) rfl
theorem ml_RX7_180 : Cond.methodLink RX7 180 yX3_maySecond ∈ zW := zW_of 735 (by decide +kernel) rfl
theorem ml_RX7_183 : Cond.methodLink RX7 183 yX3_mayDecide ∈ zW := zW_of 739 (by decide +kernel) rfl
theorem ml_RX7_107 : Cond.methodLink RX7 107 yX7_hasOther ∈ zW := zW_of 744 (by decide +kernel) rfl
theorem ml_RX7_111 : Cond.methodLink RX7 111 yX7_perform ∈ zW := zW_of 748 (by decide +kernel) rfl
theorem ml_RX7_209 : Cond.methodLink RX7 209 yX0_drop ∈ zW := zW_of 752 (by decide +kernel) rfl
theorem ml_RX0_51 : Cond.methodLink RX0 51 yX0_dequeue ∈ zW := zW_of 756 (by decide +kernel) rfl
theorem ml_RX7_212 : Cond.methodLink RX7 212 yX0_enqueue ∈ zW := zW_of 760 (by decide +kernel) rfl
theorem ml_RX7_215 : Cond.methodLink RX7 215 yX0_callNext ∈ zW := zW_of 764 (by decide +kernel) rfl
theorem ml_RX0_55 : Cond.methodLink RX0 55 yX0_nextPlace ∈ zW := zW_of 768 (by decide +kernel) rfl
theorem ml_RX0_69 : Cond.methodLink RX0 69 yX0_countedSpeeches ∈ zW := zW_of 772 (by decide +kernel) rfl
theorem ml_RX7_218 : Cond.methodLink RX7 218 yX3_debateTop ∈ zW := zW_of 777 (by decide +kernel) rfl
theorem ml_RX7_221 : Cond.methodLink RX7 221 yX7_letTicksGo ∈ zW := zW_of 781 (by decide +kernel) rfl
theorem ml_RX7_237 : Cond.methodLink RX7 237 yX0_spend ∈ zW := zW_of 785 (by decide +kernel) rfl
theorem ml_RX0_63 : Cond.methodLink RX0 63 yJ9_max_7cf53 ∈ zW := zW_of 789 (by decide +kernel) rfl
theorem ml_RX7_240 : Cond.methodLink RX7 240 yJ9_max_7cf53 ∈ zW := zW_of 792 (by decide +kernel) rfl
theorem ml_RX7_224 : Cond.methodLink RX7 224 yX0_yieldTo ∈ zW := zW_of 793 (by decide +kernel) rfl
theorem ml_RX7_227 : Cond.methodLink RX7 227 yX3_push ∈ zW := zW_of 797 (by decide +kernel) rfl
theorem ml_RX3_59 : Cond.methodLink RX3 59 yX3_isFull ∈ zW := zW_of 801 (by decide +kernel) rfl
theorem ml_RX7_231 : Cond.methodLink RX7 231 yX3_secondTop ∈ zW := zW_of 802 (by decide +kernel) rfl
theorem ml_RX7_234 : Cond.methodLink RX7 234 yX7_decide ∈ zW := zW_of 806 (by decide +kernel) rfl
theorem ml_RX7_246 : Cond.methodLink RX7 246 yX3_top ∈ zW := zW_of 810 (by decide +kernel) rfl
theorem ml_RX7_251 : Cond.methodLink RX7 251 yX7_isCarried ∈ zW := zW_of 811 (by decide +kernel) rfl
theorem ml_RX7_258 : Cond.methodLink RX7 258 yX7_settleAppeal ∈ zW := zW_of 815 (by decide +kernel) rfl
theorem ml_RX7_264 : Cond.methodLink RX7 264 yX7_carryOut ∈ zW := zW_of 819 (by decide +kernel) rfl
theorem ml_RX7_271 : Cond.methodLink RX7 271 yX4_lay ∈ zW := zW_of 823 (by decide +kernel) rfl
theorem ml_RX4_32 : Cond.methodLink RX4 32 yX4_takeAway ∈ zW := zW_of 827 (by decide +kernel) rfl
theorem ml_RX4_35 : Cond.methodLink RX4 35 yX4_insert ∈ zW := zW_of 828 (by decide +kernel) rfl
theorem ml_RX7_275 : Cond.methodLink RX7 275 yX4_amend ∈ zW := zW_of 832 (by decide +kernel) rfl
theorem ml_RX4_47 : Cond.methodLink RX4 47 yX4_addBehind ∈ zW := zW_of 836 (by decide +kernel) rfl
theorem ml_RX4_63 : Cond.methodLink RX4 63 yX4_wasEver ∈ zW := zW_of 840 (by decide +kernel) rfl
theorem ml_RX4_50 : Cond.methodLink RX4 50 yX4_remove ∈ zW := zW_of 844 (by decide +kernel) rfl
theorem ml_RX4_54 : Cond.methodLink RX4 54 yX4_textOf ∈ zW := zW_of 848 (by decide +kernel) rfl
theorem ml_RX4_57 : Cond.methodLink RX4 57 yJ9_max_7cf53 ∈ zW := zW_of 852 (by decide +kernel) rfl
theorem ml_RX7_278 : Cond.methodLink RX7 278 yX3_endDebate ∈ zW := zW_of 853 (by decide +kernel) rfl
theorem ml_RX9_113 : Cond.methodLink RX9 113 yX7_rulingOf ∈ zW := zW_of 857 (by decide +kernel) rfl
theorem ml_RL_37 : Cond.methodLink RL 37 yX9_ruling ∈ zW := zW_of 861 (by decide +kernel) rfl
theorem ml_RL_41 : Cond.methodLink RL 41 yX9_passed ∈ zW := zW_of 865 (by decide +kernel) rfl
theorem ml_RX9_117 : Cond.methodLink RX9 117 yX7_passedOf ∈ zW := zW_of 869 (by decide +kernel) rfl
theorem ml_RL_45 : Cond.methodLink RL 45 yX9_state ∈ zW := zW_of 873 (by decide +kernel) rfl
theorem ml_RX9_120 : Cond.methodLink RX9 120 yX7_tell ∈ zW := zW_of 877 (by decide +kernel) rfl
theorem ml_RL_49 : Cond.methodLink RL 49 yX9_pending ∈ zW := zW_of 881 (by decide +kernel) rfl
theorem ml_RX9_127 : Cond.methodLink RX9 127 yX3_tell ∈ zW := zW_of 885 (by decide +kernel) rfl
theorem ml_RL_54 : Cond.methodLink RL 54 yX9_clause ∈ zW := zW_of 889 (by decide +kernel) rfl
theorem ml_RX9_136 : Cond.methodLink RX9 136 yX4_numberAt ∈ zW := zW_of 893 (by decide +kernel) rfl
theorem ml_RX9_141 : Cond.methodLink RX9 141 yX4_textOf ∈ zW := zW_of 897 (by decide +kernel) rfl
theorem ml_RL_58 : Cond.methodLink RL 58 yX9_place ∈ zW := zW_of 898 (by decide +kernel) rfl
theorem ml_RX9_144 : Cond.methodLink RX9 144 yX4_placeOf ∈ zW := zW_of 902 (by decide +kernel) rfl
theorem ml_RL_62 : Cond.methodLink RL 62 yX9_speeches ∈ zW := zW_of 906 (by decide +kernel) rfl
theorem ml_RL_66 : Cond.methodLink RL 66 yX9_waits ∈ zW := zW_of 910 (by decide +kernel) rfl
theorem ml_RX9_156 : Cond.methodLink RX9 156 yX0_copyFrom ∈ zW := zW_of 914 (by decide +kernel) rfl
theorem ml_RX9_162 : Cond.methodLink RX9 162 yX0_callNext ∈ zW := zW_of 918 (by decide +kernel) rfl
theorem ml_RL_70 : Cond.methodLink RL 70 yX9_overturned ∈ zW := zW_of 919 (by decide +kernel) rfl
theorem ml_RX9_168 : Cond.methodLink RX9 168 yX7_overturnedOf ∈ zW := zW_of 923 (by decide +kernel) rfl
theorem ml_RL_74 : Cond.methodLink RL 74 yX9_beside ∈ zW := zW_of 927 (by decide +kernel) rfl
theorem ml_RL_78 : Cond.methodLink RL 78 yX9_score ∈ zW := zW_of 931 (by decide +kernel) rfl
theorem ml_RX9_171 : Cond.methodLink RX9 171 yX1_take ∈ zW := zW_of 935 (by decide +kernel) rfl
theorem ml_RL_83 : Cond.methodLink RL 83 yX9_mean ∈ zW := zW_of 941 (by decide +kernel) rfl
theorem ml_RX9_175 : Cond.methodLink RX9 175 yX1_meanOf ∈ zW := zW_of 945 (by decide +kernel) rfl
theorem ml_RX1_33 : Cond.methodLink RX1 33 yX1_counts ∈ zW := zW_of 949 (by decide +kernel) rfl
theorem ml_RX1_37 : Cond.methodLink RX1 37 yX1_scaled ∈ zW := zW_of 953 (by decide +kernel) rfl
theorem ml_RX1_48 : Cond.methodLink RX1 48 yJ9_min_7cf53 ∈ zW := zW_of 957 (by decide +kernel) rfl
theorem ml_RX1_53 : Cond.methodLink RX1 53 yJ9_max_7cf53 ∈ zW := zW_of 960 (by decide +kernel) rfl
theorem ml_RL_87 : Cond.methodLink RL 87 yX9_award ∈ zW := zW_of 961 (by decide +kernel) rfl
theorem ml_RX9_178 : Cond.methodLink RX9 178 yX1_memberAt ∈ zW := zW_of 965 (by decide +kernel) rfl
theorem ml_RX1_41 : Cond.methodLink RX1 41 yX1_meanOf ∈ zW := zW_of 969 (by decide +kernel) rfl
theorem ml_RX1_45 : Cond.methodLink RX1 45 yX1_countAheadOf ∈ zW := zW_of 970 (by decide +kernel) rfl
theorem ml_RL_91 : Cond.methodLink RL 91 yX9_told ∈ zW := zW_of 974 (by decide +kernel) rfl
theorem ml_RL_12 : Cond.methodLink RL 12 yX10_init ∈ zW := zW_of 980 (by decide +kernel) rfl
theorem ml_RX10_140 : Cond.methodLink RX10 140 yX10_begin ∈ zW := zW_of 987 (by decide +kernel) rfl
theorem fl_RX10_7 : Cond.fieldLink RX10 7 (TX10 1).1 (TX10 1).2.1 (TX10 1).2.2.1 ∈ zW := zW_of 991 (by decide +kernel) rfl
theorem fl_RX10_146 : Cond.fieldLink RX10 146 (TX10 2).1 (TX10 2).2.1 (TX10 2).2.2.1 ∈ zW := zW_of 992 (by decide +kernel) rfl
theorem fl_RX10_156 : Cond.fieldLink RX10 156 (TX10 3).1 (TX10 3).2.1 (TX10 3).2.2.1 ∈ zW := zW_of 993 (by decide +kernel) rfl
theorem fl_RX10_159 : Cond.fieldLink RX10 159 (TX10 4).1 (TX10 4).2.1 (TX10 4).2.2.1 ∈ zW := zW_of 994 (by decide +kernel) rfl
theorem fl_RX10_153 : Cond.fieldLink RX10 153 (TX10 5).1 (TX10 5).2.1 (TX10 5).2.2.1 ∈ zW := zW_of 995 (by decide +kernel) rfl
theorem fl_RX10_13 : Cond.fieldLink RX10 13 (TX10 6).1 (TX10 6).2.1 (TX10 6).2.2.1 ∈ zW := zW_of 996 (by decide +kernel) rfl
theorem fl_RX10_19 : Cond.fieldLink RX10 19 (TX10 7).1 (TX10 7).2.1 (TX10 7).2.2.1 ∈ zW := zW_of 997 (by decide +kernel) rfl
theorem fl_RX10_22 : Cond.fieldLink RX10 22 (TX10 8).1 (TX10 8).2.1 (TX10 8).2.2.1 ∈ zW := zW_of 998 (by decide +kernel) rfl
theorem fl_RX10_27 : Cond.fieldLink RX10 27 (TX10 9).1 (TX10 9).2.1 (TX10 9).2.2.1 ∈ zW := zW_of 999 (by decide +kernel) rfl
theorem fl_RX10_30 : Cond.fieldLink RX10 30 (TX10 10).1 (TX10 10).2.1 (TX10 10).2.2.1 ∈ zW := zW_of 1000 (by decide +kernel) rfl
theorem fl_RX10_33 : Cond.fieldLink RX10 33 (TX10 11).1 (TX10 11).2.1 (TX10 11).2.2.1 ∈ zW := zW_of 1001 (by decide +kernel) rfl
theorem fl_RX10_37 : Cond.fieldLink RX10 37 (TX10 12).1 (TX10 12).2.1 (TX10 12).2.2.1 ∈ zW := zW_of 1002 (by decide +kernel) rfl
theorem fl_RX10_40 : Cond.fieldLink RX10 40 (TX10 13).1 (TX10 13).2.1 (TX10 13).2.2.1 ∈ zW := zW_of 1003 (by decide +kernel) rfl
theorem fl_RX10_43 : Cond.fieldLink RX10 43 (TX10 14).1 (TX10 14).2.1 (TX10 14).2.2.1 ∈ zW := zW_of 1004 (by decide +kernel) rfl
theorem fl_RX10_46 : Cond.fieldLink RX10 46 (TX10 15).1 (TX10 15).2.1 (TX10 15).2.2.1 ∈ zW := zW_of 1005 (by decide +kernel) rfl
theorem fl_RX10_259 : Cond.fieldLink RX10 259 (TX10 16).1 (TX10 16).2.1 (TX10 16).2.2.1 ∈ zW := zW_of 1006 (by decide +kernel) rfl
theorem fl_RX10_49 : Cond.fieldLink RX10 49 (TX10 17).1 (TX10 17).2.1 (TX10 17).2.2.1 ∈ zW := zW_of 1007 (by decide +kernel) rfl
theorem fl_RX10_52 : Cond.fieldLink RX10 52 (TX10 18).1 (TX10 18).2.1 (TX10 18).2.2.1 ∈ zW := zW_of 1008 (by decide +kernel) rfl
theorem fl_RX10_55 : Cond.fieldLink RX10 55 (TX10 19).1 (TX10 19).2.1 (TX10 19).2.2.1 ∈ zW := zW_of 1009 (by decide +kernel) rfl
theorem fl_RX10_58 : Cond.fieldLink RX10 58 (TX10 20).1 (TX10 20).2.1 (TX10 20).2.2.1 ∈ zW := zW_of 1010 (by decide +kernel) rfl
theorem fl_RX10_61 : Cond.fieldLink RX10 61 (TX10 21).1 (TX10 21).2.1 (TX10 21).2.2.1 ∈ zW := zW_of 1011 (by decide +kernel) rfl
theorem fl_RX10_64 : Cond.fieldLink RX10 64 (TX10 22).1 (TX10 22).2.1 (TX10 22).2.2.1 ∈ zW := zW_of 1012 (by decide +kernel) rfl
theorem fl_RX10_67 : Cond.fieldLink RX10 67 (TX10 23).1 (TX10 23).2.1 (TX10 23).2.2.1 ∈ zW := zW_of 1013 (by decide +kernel) rfl
theorem fl_RX10_70 : Cond.fieldLink RX10 70 (TX10 24).1 (TX10 24).2.1 (TX10 24).2.2.1 ∈ zW := zW_of 1014 (by decide +kernel) rfl
theorem fl_RX10_265 : Cond.fieldLink RX10 265 (TX10 25).1 (TX10 25).2.1 (TX10 25).2.2.1 ∈ zW := zW_of 1015 (by decide +kernel) rfl
theorem fl_RX10_73 : Cond.fieldLink RX10 73 (TX10 26).1 (TX10 26).2.1 (TX10 26).2.2.1 ∈ zW := zW_of 1016 (by decide +kernel) rfl
theorem fl_RX10_377 : Cond.fieldLink RX10 377 (TX10 27).1 (TX10 27).2.1 (TX10 27).2.2.1 ∈ zW := zW_of 1017 (by decide +kernel) rfl
theorem fl_RX10_77 : Cond.fieldLink RX10 77 (TX10 28).1 (TX10 28).2.1 (TX10 28).2.2.1 ∈ zW := zW_of 1018 (by decide +kernel) rfl
theorem fl_RX10_80 : Cond.fieldLink RX10 80 (TX10 29).1 (TX10 29).2.1 (TX10 29).2.2.1 ∈ zW := zW_of 1019 (by decide +kernel) rfl
theorem fl_RX10_83 : Cond.fieldLink RX10 83 (TX10 30).1 (TX10 30).2.1 (TX10 30).2.2.1 ∈ zW := zW_of 1020 (by decide +kernel) rfl
theorem fl_RX10_268 : Cond.fieldLink RX10 268 (TX10 31).1 (TX10 31).2.1 (TX10 31).2.2.1 ∈ zW := zW_of 1021 (by decide +kernel) rfl
theorem fl_RX10_271 : Cond.fieldLink RX10 271 (TX10 32).1 (TX10 32).2.1 (TX10 32).2.2.1 ∈ zW := zW_of 1022 (by decide +kernel) rfl
theorem fl_RX10_274 : Cond.fieldLink RX10 274 (TX10 33).1 (TX10 33).2.1 (TX10 33).2.2.1 ∈ zW := zW_of 1023 (by decide +kernel) rfl
theorem fl_RX10_277 : Cond.fieldLink RX10 277 (TX10 34).1 (TX10 34).2.1 (TX10 34).2.2.1 ∈ zW := zW_of 1024 (by decide +kernel) rfl
theorem fl_RX10_280 : Cond.fieldLink RX10 280 (TX10 35).1 (TX10 35).2.1 (TX10 35).2.2.1 ∈ zW := zW_of 1025 (by decide +kernel) rfl
theorem fl_RX10_283 : Cond.fieldLink RX10 283 (TX10 36).1 (TX10 36).2.1 (TX10 36).2.2.1 ∈ zW := zW_of 1026 (by decide +kernel) rfl
theorem fl_RX10_286 : Cond.fieldLink RX10 286 (TX10 37).1 (TX10 37).2.1 (TX10 37).2.2.1 ∈ zW := zW_of 1027 (by decide +kernel) rfl
theorem fl_RX10_290 : Cond.fieldLink RX10 290 (TX10 38).1 (TX10 38).2.1 (TX10 38).2.2.1 ∈ zW := zW_of 1028 (by decide +kernel) rfl
theorem fl_RX10_293 : Cond.fieldLink RX10 293 (TX10 39).1 (TX10 39).2.1 (TX10 39).2.2.1 ∈ zW := zW_of 1029 (by decide +kernel) rfl
theorem fl_RX10_86 : Cond.fieldLink RX10 86 (TX10 40).1 (TX10 40).2.1 (TX10 40).2.2.1 ∈ zW := zW_of 1030 (by decide +kernel) rfl
theorem fl_RX10_89 : Cond.fieldLink RX10 89 (TX10 41).1 (TX10 41).2.1 (TX10 41).2.2.1 ∈ zW := zW_of 1031 (by decide +kernel) rfl
theorem fl_RX10_92 : Cond.fieldLink RX10 92 (TX10 42).1 (TX10 42).2.1 (TX10 42).2.2.1 ∈ zW := zW_of 1032 (by decide +kernel) rfl
theorem fl_RX10_95 : Cond.fieldLink RX10 95 (TX10 43).1 (TX10 43).2.1 (TX10 43).2.2.1 ∈ zW := zW_of 1033 (by decide +kernel) rfl
theorem fl_RX10_98 : Cond.fieldLink RX10 98 (TX10 44).1 (TX10 44).2.1 (TX10 44).2.2.1 ∈ zW := zW_of 1034 (by decide +kernel) rfl
theorem fl_RX10_101 : Cond.fieldLink RX10 101 (TX10 45).1 (TX10 45).2.1 (TX10 45).2.2.1 ∈ zW := zW_of 1035 (by decide +kernel) rfl
theorem fl_RX10_104 : Cond.fieldLink RX10 104 (TX10 46).1 (TX10 46).2.1 (TX10 46).2.2.1 ∈ zW := zW_of 1036 (by decide +kernel) rfl
theorem fl_RX10_107 : Cond.fieldLink RX10 107 (TX10 47).1 (TX10 47).2.1 (TX10 47).2.2.1 ∈ zW := zW_of 1037 (by decide +kernel) rfl
theorem fl_RX10_296 : Cond.fieldLink RX10 296 (TX10 48).1 (TX10 48).2.1 (TX10 48).2.2.1 ∈ zW := zW_of 1038 (by decide +kernel) rfl
theorem fl_RX10_299 : Cond.fieldLink RX10 299 (TX10 49).1 (TX10 49).2.1 (TX10 49).2.2.1 ∈ zW := zW_of 1039 (by decide +kernel) rfl
theorem fl_RX10_302 : Cond.fieldLink RX10 302 (TX10 50).1 (TX10 50).2.1 (TX10 50).2.2.1 ∈ zW := zW_of 1040 (by decide +kernel) rfl
theorem fl_RX10_110 : Cond.fieldLink RX10 110 (TX10 51).1 (TX10 51).2.1 (TX10 51).2.2.1 ∈ zW := zW_of 1041 (by decide +kernel) rfl
theorem fl_RX10_113 : Cond.fieldLink RX10 113 (TX10 52).1 (TX10 52).2.1 (TX10 52).2.2.1 ∈ zW := zW_of 1042 (by decide +kernel) rfl
theorem fl_RX10_116 : Cond.fieldLink RX10 116 (TX10 53).1 (TX10 53).2.1 (TX10 53).2.2.1 ∈ zW := zW_of 1043 (by decide +kernel) rfl
theorem fl_RX10_119 : Cond.fieldLink RX10 119 (TX10 54).1 (TX10 54).2.1 (TX10 54).2.2.1 ∈ zW := zW_of 1044 (by decide +kernel) rfl
theorem fl_RX10_122 : Cond.fieldLink RX10 122 (TX10 55).1 (TX10 55).2.1 (TX10 55).2.2.1 ∈ zW := zW_of 1045 (by decide +kernel) rfl
theorem fl_RX10_125 : Cond.fieldLink RX10 125 (TX10 56).1 (TX10 56).2.1 (TX10 56).2.2.1 ∈ zW := zW_of 1046 (by decide +kernel) rfl
theorem fl_RX10_128 : Cond.fieldLink RX10 128 (TX10 57).1 (TX10 57).2.1 (TX10 57).2.2.1 ∈ zW := zW_of 1047 (by decide +kernel) rfl
theorem fl_RX10_131 : Cond.fieldLink RX10 131 (TX10 58).1 (TX10 58).2.1 (TX10 58).2.2.1 ∈ zW := zW_of 1048 (by decide +kernel) rfl
theorem fl_RX10_134 : Cond.fieldLink RX10 134 (TX10 59).1 (TX10 59).2.1 (TX10 59).2.2.1 ∈ zW := zW_of 1049 (by decide +kernel) rfl
theorem fl_RX10_137 : Cond.fieldLink RX10 137 (TX10 60).1 (TX10 60).2.1 (TX10 60).2.2.1 ∈ zW := zW_of 1050 (by decide +kernel) rfl
theorem ml_RL_17 : Cond.methodLink RL 17 yX10_feed ∈ zW := zW_of 1174 (by decide +kernel) rfl
theorem ml_RX10_149 : Cond.methodLink RX10 149 yX10_put ∈ zW := zW_of 1178 (by decide +kernel) rfl
theorem ml_RL_22 : Cond.methodLink RL 22 yX10_end ∈ zW := zW_of 1182 (by decide +kernel) rfl
theorem ml_RL_27 : Cond.methodLink RL 27 yX10_rules ∈ zW := zW_of 1186 (by decide +kernel) rfl
theorem ml_RX10_162 : Cond.methodLink RX10 162 yX10_isEnd ∈ zW := zW_of 1190 (by decide +kernel) rfl
theorem ml_RX10_262 : Cond.methodLink RX10 262 yX10_clause ∈ zW := zW_of 1194 (by decide +kernel) rfl
theorem ml_RX10_217 : Cond.methodLink RX10 217 yX10_word ∈ zW := zW_of 1198 (by decide +kernel) rfl
theorem ml_RX10_166 : Cond.methodLink RX10 166 yX10_isLetter ∈ zW := zW_of 1202 (by decide +kernel) rfl
theorem ml_RX10_169 : Cond.methodLink RX10 169 yX10_fails ∈ zW := zW_of 1206 (by decide +kernel) rfl
theorem ml_RX10_220 : Cond.methodLink RX10 220 yX10_is ∈ zW := zW_of 1211 (by decide +kernel) rfl
theorem ml_RX10_173 : Cond.methodLink RX10 173 yJ0_length_8abf5 ∈ zW := zW_of 1215 (by decide +kernel) rfl
theorem ml_RX10_179 : Cond.methodLink RX10 179 yJ0_charAt_5068e ∈ zW := zW_of 1216 (by decide +kernel) rfl
theorem ml_RX10_246 : Cond.methodLink RX10 246 yX10_motion ∈ zW := zW_of 1217 (by decide +kernel) rfl
theorem ml_RX10_224 : Cond.methodLink RX10 224 yX10_kindOf ∈ zW := zW_of 1221 (by decide +kernel) rfl
theorem ml_RX10_229 : Cond.methodLink RX10 229 yX10_one ∈ zW := zW_of 1234 (by decide +kernel) rfl
theorem ml_RX10_233 : Cond.methodLink RX10 233 yX10_number ∈ zW := zW_of 1238 (by decide +kernel) rfl
theorem co_RX10_183 : Cond.constant RX10 183 1000000 ∈ zW := zW_of 1242 (by decide +kernel) rfl
theorem ml_RX10_184 : Cond.methodLink RX10 184 yX10_in ∈ zW := zW_of 1243 (by decide +kernel) rfl
theorem ml_RX10_241 : Cond.methodLink RX10 241 yX10_wayOf ∈ zW := zW_of 1249 (by decide +kernel) rfl
theorem ml_RX10_248 : Cond.methodLink RX10 248 yX10_clauseOf ∈ zW := zW_of 1257 (by decide +kernel) rfl
theorem ml_RL_32 : Cond.methodLink RL 32 yX10_school ∈ zW := zW_of 1269 (by decide +kernel) rfl
theorem ml_RL_36 : Cond.methodLink RL 36 yX10_act ∈ zW := zW_of 1273 (by decide +kernel) rfl
theorem ml_RX10_383 : Cond.methodLink RX10 383 yX10_works ∈ zW := zW_of 1277 (by decide +kernel) rfl
theorem ml_RX10_374 : Cond.methodLink RX10 374 yX10_rule ∈ zW := zW_of 1281 (by decide +kernel) rfl
theorem ml_RX10_309 : Cond.methodLink RX10 309 yX10_isWrong ∈ zW := zW_of 1285 (by decide +kernel) rfl
theorem ml_RX10_313 : Cond.methodLink RX10 313 yX10_there ∈ zW := zW_of 1289 (by decide +kernel) rfl
theorem ml_RX10_316 : Cond.methodLink RX10 316 yX10_isInOrder ∈ zW := zW_of 1293 (by decide +kernel) rfl
theorem ml_RX10_319 : Cond.methodLink RX10 319 yX10_waitsFor ∈ zW := zW_of 1297 (by decide +kernel) rfl
theorem ml_RX10_323 : Cond.methodLink RX10 323 yX10_mayMove ∈ zW := zW_of 1301 (by decide +kernel) rfl
theorem ml_RX10_326 : Cond.methodLink RX10 326 yX10_refused ∈ zW := zW_of 1305 (by decide +kernel) rfl
theorem ml_RX10_330 : Cond.methodLink RX10 330 yX10_mayAmend ∈ zW := zW_of 1309 (by decide +kernel) rfl
theorem ml_RX10_333 : Cond.methodLink RX10 333 yX10_placeOf ∈ zW := zW_of 1313 (by decide +kernel) rfl
theorem ml_RX10_380 : Cond.methodLink RX10 380 yX10_does ∈ zW := zW_of 1317 (by decide +kernel) rfl
theorem ml_RX10_336 : Cond.methodLink RX10 336 yX10_leaves ∈ zW := zW_of 1321 (by decide +kernel) rfl
theorem ml_RX10_339 : Cond.methodLink RX10 339 yX10_free ∈ zW := zW_of 1325 (by decide +kernel) rfl
theorem ml_RX10_342 : Cond.methodLink RX10 342 yX10_next ∈ zW := zW_of 1329 (by decide +kernel) rfl
theorem ml_RX10_305 : Cond.methodLink RX10 305 yX10_spoke ∈ zW := zW_of 1333 (by decide +kernel) rfl
theorem ml_RX10_346 : Cond.methodLink RX10 346 yX10_moves ∈ zW := zW_of 1337 (by decide +kernel) rfl
theorem ml_RX10_349 : Cond.methodLink RX10 349 yX10_isPassing ∈ zW := zW_of 1341 (by decide +kernel) rfl
theorem ml_RX10_356 : Cond.methodLink RX10 356 yX10_many ∈ zW := zW_of 1345 (by decide +kernel) rfl
theorem ml_RX10_352 : Cond.methodLink RX10 352 yX10_votes ∈ zW := zW_of 1348 (by decide +kernel) rfl
theorem ml_RX10_359 : Cond.methodLink RX10 359 yX10_papers ∈ zW := zW_of 1352 (by decide +kernel) rfl
theorem ml_RX10_362 : Cond.methodLink RX10 362 yX10_amends ∈ zW := zW_of 1356 (by decide +kernel) rfl
theorem ml_RX10_365 : Cond.methodLink RX10 365 yX10_behindGone ∈ zW := zW_of 1360 (by decide +kernel) rfl
theorem ml_RX10_368 : Cond.methodLink RX10 368 yX10_adds ∈ zW := zW_of 1364 (by decide +kernel) rfl
theorem ml_RX10_371 : Cond.methodLink RX10 371 yX10_goes ∈ zW := zW_of 1368 (by decide +kernel) rfl
theorem ml_RL_77 : Cond.methodLink RL 77 yX10_beside ∈ zW := zW_of 1372 (by decide +kernel) rfl
theorem ml_RX10_386 : Cond.methodLink RX10 386 yX10_again ∈ zW := zW_of 1376 (by decide +kernel) rfl
theorem ml_RX10_389 : Cond.methodLink RX10 389 yX10_state ∈ zW := zW_of 1380 (by decide +kernel) rfl
theorem ml_RL_40 : Cond.methodLink RL 40 yX10_ruling ∈ zW := zW_of 1384 (by decide +kernel) rfl
theorem ml_RL_44 : Cond.methodLink RL 44 yX10_passed ∈ zW := zW_of 1388 (by decide +kernel) rfl
theorem ml_RL_48 : Cond.methodLink RL 48 yX10_state ∈ zW := zW_of 1392 (by decide +kernel) rfl
theorem ml_RL_53 : Cond.methodLink RL 53 yX10_pending ∈ zW := zW_of 1393 (by decide +kernel) rfl
theorem ml_RL_57 : Cond.methodLink RL 57 yX10_clause_ ∈ zW := zW_of 1397 (by decide +kernel) rfl
theorem ml_RL_61 : Cond.methodLink RL 61 yX10_place ∈ zW := zW_of 1401 (by decide +kernel) rfl
theorem ml_RL_65 : Cond.methodLink RL 65 yX10_speeches ∈ zW := zW_of 1405 (by decide +kernel) rfl
theorem ml_RL_69 : Cond.methodLink RL 69 yX10_waits ∈ zW := zW_of 1409 (by decide +kernel) rfl
theorem ml_RL_73 : Cond.methodLink RL 73 yX10_overturned ∈ zW := zW_of 1413 (by decide +kernel) rfl
theorem ml_RL_82 : Cond.methodLink RL 82 yX10_score ∈ zW := zW_of 1417 (by decide +kernel) rfl
theorem ml_RL_86 : Cond.methodLink RL 86 yX10_mean ∈ zW := zW_of 1421 (by decide +kernel) rfl
theorem ml_RX10_392 : Cond.methodLink RX10 392 yX10_counts ∈ zW := zW_of 1425 (by decide +kernel) rfl
theorem ml_RX10_395 : Cond.methodLink RX10 395 yX10_scaled ∈ zW := zW_of 1429 (by decide +kernel) rfl
theorem ml_RL_90 : Cond.methodLink RL 90 yX10_award ∈ zW := zW_of 1433 (by decide +kernel) rfl
theorem ml_RX10_398 : Cond.methodLink RX10 398 yX10_mean ∈ zW := zW_of 1437 (by decide +kernel) rfl
theorem ml_RL_94 : Cond.methodLink RL 94 yX10_told ∈ zW := zW_of 1438 (by decide +kernel) rfl
theorem cd_X0_init : Cond.code yX0_init cX0_init 3 none ∈ zW := zW_of 228 (by decide +kernel) rfl
theorem im_X0_init : Cond.instanceMethod yX0_init ∈ zW := zW_of 227 (by decide +kernel) rfl
theorem cd_X0_clear : Cond.code yX0_clear cX0_clear 2 none ∈ zW := zW_of 334 (by decide +kernel) rfl
theorem im_X0_clear : Cond.instanceMethod yX0_clear ∈ zW := zW_of 332 (by decide +kernel) rfl
theorem se_X0_clear : Cond.selects RX0 yX0_clear yX0_clear ∈ zW := zW_of 333 (by decide +kernel) rfl
theorem cd_X0_copyFrom : Cond.code yX0_copyFrom cX0_copyFrom 3 none ∈ zW := zW_of 917 (by decide +kernel) rfl
theorem im_X0_copyFrom : Cond.instanceMethod yX0_copyFrom ∈ zW := zW_of 915 (by decide +kernel) rfl
theorem se_X0_copyFrom : Cond.selects RX0 yX0_copyFrom yX0_copyFrom ∈ zW := zW_of 916 (by decide +kernel) rfl
theorem cd_X0_setFree : Cond.code yX0_setFree cX0_setFree 1 none ∈ zW := zW_of 338 (by decide +kernel) rfl
theorem im_X0_setFree : Cond.instanceMethod yX0_setFree ∈ zW := zW_of 336 (by decide +kernel) rfl
theorem se_X0_setFree : Cond.selects RX0 yX0_setFree yX0_setFree ∈ zW := zW_of 337 (by decide +kernel) rfl
theorem cd_X0_queuePlaceOf : Cond.code yX0_queuePlaceOf cX0_queuePlaceOf 3 (some .int) ∈ zW := zW_of 681 (by decide +kernel) rfl
theorem im_X0_queuePlaceOf : Cond.instanceMethod yX0_queuePlaceOf ∈ zW := zW_of 679 (by decide +kernel) rfl
theorem se_X0_queuePlaceOf : Cond.selects RX0 yX0_queuePlaceOf yX0_queuePlaceOf ∈ zW := zW_of 680 (by decide +kernel) rfl
theorem cd_X0_mayAsk : Cond.code yX0_mayAsk cX0_mayAsk 2 (some .boolean) ∈ zW := zW_of 677 (by decide +kernel) rfl
theorem im_X0_mayAsk : Cond.instanceMethod yX0_mayAsk ∈ zW := zW_of 675 (by decide +kernel) rfl
theorem se_X0_mayAsk : Cond.selects RX0 yX0_mayAsk yX0_mayAsk ∈ zW := zW_of 676 (by decide +kernel) rfl
theorem cd_X0_mayYieldTo : Cond.code yX0_mayYieldTo cX0_mayYieldTo 2 (some .boolean) ∈ zW := zW_of 685 (by decide +kernel) rfl
theorem im_X0_mayYieldTo : Cond.instanceMethod yX0_mayYieldTo ∈ zW := zW_of 683 (by decide +kernel) rfl
theorem se_X0_mayYieldTo : Cond.selects RX0 yX0_mayYieldTo yX0_mayYieldTo ∈ zW := zW_of 684 (by decide +kernel) rfl
theorem cd_X0_enqueue : Cond.code yX0_enqueue cX0_enqueue 2 none ∈ zW := zW_of 763 (by decide +kernel) rfl
theorem im_X0_enqueue : Cond.instanceMethod yX0_enqueue ∈ zW := zW_of 761 (by decide +kernel) rfl
theorem se_X0_enqueue : Cond.selects RX0 yX0_enqueue yX0_enqueue ∈ zW := zW_of 762 (by decide +kernel) rfl
theorem cd_X0_dequeue : Cond.code yX0_dequeue cX0_dequeue 3 none ∈ zW := zW_of 759 (by decide +kernel) rfl
theorem im_X0_dequeue : Cond.instanceMethod yX0_dequeue ∈ zW := zW_of 757 (by decide +kernel) rfl
theorem se_X0_dequeue : Cond.selects RX0 yX0_dequeue yX0_dequeue ∈ zW := zW_of 758 (by decide +kernel) rfl
theorem cd_X0_drop : Cond.code yX0_drop cX0_drop 2 none ∈ zW := zW_of 755 (by decide +kernel) rfl
theorem im_X0_drop : Cond.instanceMethod yX0_drop ∈ zW := zW_of 753 (by decide +kernel) rfl
theorem se_X0_drop : Cond.selects RX0 yX0_drop yX0_drop ∈ zW := zW_of 754 (by decide +kernel) rfl
theorem cd_X0_callNext : Cond.code yX0_callNext cX0_callNext 4 none ∈ zW := zW_of 767 (by decide +kernel) rfl
theorem im_X0_callNext : Cond.instanceMethod yX0_callNext ∈ zW := zW_of 765 (by decide +kernel) rfl
theorem se_X0_callNext : Cond.selects RX0 yX0_callNext yX0_callNext ∈ zW := zW_of 766 (by decide +kernel) rfl
theorem cd_X0_yieldTo : Cond.code yX0_yieldTo cX0_yieldTo 2 none ∈ zW := zW_of 796 (by decide +kernel) rfl
theorem im_X0_yieldTo : Cond.instanceMethod yX0_yieldTo ∈ zW := zW_of 794 (by decide +kernel) rfl
theorem se_X0_yieldTo : Cond.selects RX0 yX0_yieldTo yX0_yieldTo ∈ zW := zW_of 795 (by decide +kernel) rfl
theorem cd_X0_spend : Cond.code yX0_spend cX0_spend 2 none ∈ zW := zW_of 788 (by decide +kernel) rfl
theorem im_X0_spend : Cond.instanceMethod yX0_spend ∈ zW := zW_of 786 (by decide +kernel) rfl
theorem se_X0_spend : Cond.selects RX0 yX0_spend yX0_spend ∈ zW := zW_of 787 (by decide +kernel) rfl
theorem cd_X0_nextPlace : Cond.code yX0_nextPlace cX0_nextPlace 5 (some .int) ∈ zW := zW_of 771 (by decide +kernel) rfl
theorem im_X0_nextPlace : Cond.instanceMethod yX0_nextPlace ∈ zW := zW_of 770 (by decide +kernel) rfl
theorem se_X0_nextPlace : Cond.selects RX0 yX0_nextPlace yX0_nextPlace ∈ zW := zW_of 11 (by decide +kernel) rfl
theorem cd_X0_countedSpeeches : Cond.code yX0_countedSpeeches cX0_countedSpeeches 4 (some .int) ∈ zW := zW_of 775 (by decide +kernel) rfl
theorem im_X0_countedSpeeches : Cond.instanceMethod yX0_countedSpeeches ∈ zW := zW_of 774 (by decide +kernel) rfl
theorem se_X0_countedSpeeches : Cond.selects RX0 yX0_countedSpeeches yX0_countedSpeeches ∈ zW := zW_of 12 (by decide +kernel) rfl
theorem cd_X1_init : Cond.code yX1_init cX1_init 4 none ∈ zW := zW_of 402 (by decide +kernel) rfl
theorem im_X1_init : Cond.instanceMethod yX1_init ∈ zW := zW_of 401 (by decide +kernel) rfl
theorem cd_X1_take : Cond.code yX1_take cX1_take 5 (some .boolean) ∈ zW := zW_of 938 (by decide +kernel) rfl
theorem im_X1_take : Cond.instanceMethod yX1_take ∈ zW := zW_of 936 (by decide +kernel) rfl
theorem se_X1_take : Cond.selects RX1 yX1_take yX1_take ∈ zW := zW_of 937 (by decide +kernel) rfl
theorem cd_X1_meanOf : Cond.code yX1_meanOf cX1_meanOf 5 (some .int) ∈ zW := zW_of 948 (by decide +kernel) rfl
theorem im_X1_meanOf : Cond.instanceMethod yX1_meanOf ∈ zW := zW_of 946 (by decide +kernel) rfl
theorem se_X1_meanOf : Cond.selects RX1 yX1_meanOf yX1_meanOf ∈ zW := zW_of 947 (by decide +kernel) rfl
theorem cd_X1_memberAt : Cond.code yX1_memberAt cX1_memberAt 3 (some .int) ∈ zW := zW_of 968 (by decide +kernel) rfl
theorem im_X1_memberAt : Cond.instanceMethod yX1_memberAt ∈ zW := zW_of 966 (by decide +kernel) rfl
theorem se_X1_memberAt : Cond.selects RX1 yX1_memberAt yX1_memberAt ∈ zW := zW_of 967 (by decide +kernel) rfl
theorem cd_X1_countAheadOf : Cond.code yX1_countAheadOf cX1_countAheadOf 4 (some .int) ∈ zW := zW_of 973 (by decide +kernel) rfl
theorem im_X1_countAheadOf : Cond.instanceMethod yX1_countAheadOf ∈ zW := zW_of 972 (by decide +kernel) rfl
theorem se_X1_countAheadOf : Cond.selects RX1 yX1_countAheadOf yX1_countAheadOf ∈ zW := zW_of 23 (by decide +kernel) rfl
theorem cd_X1_counts : Cond.code yX1_counts cX1_counts 3 (some .boolean) ∈ zW := zW_of 952 (by decide +kernel) rfl
theorem im_X1_counts : Cond.instanceMethod yX1_counts ∈ zW := zW_of 951 (by decide +kernel) rfl
theorem se_X1_counts : Cond.selects RX1 yX1_counts yX1_counts ∈ zW := zW_of 21 (by decide +kernel) rfl
theorem cd_X1_scaled : Cond.code yX1_scaled cX1_scaled 6 (some .int) ∈ zW := zW_of 956 (by decide +kernel) rfl
theorem im_X1_scaled : Cond.instanceMethod yX1_scaled ∈ zW := zW_of 955 (by decide +kernel) rfl
theorem se_X1_scaled : Cond.selects RX1 yX1_scaled yX1_scaled ∈ zW := zW_of 22 (by decide +kernel) rfl
theorem cd_X2_init : Cond.code yX2_init cX2_init 1 none ∈ zW := zW_of 191 (by decide +kernel) rfl
theorem im_X2_init : Cond.instanceMethod yX2_init ∈ zW := zW_of 190 (by decide +kernel) rfl
theorem cd_X2_add : Cond.code yX2_add cX2_add 6 none ∈ zW := zW_of 638 (by decide +kernel) rfl
theorem im_X2_add : Cond.instanceMethod yX2_add ∈ zW := zW_of 636 (by decide +kernel) rfl
theorem se_X2_add : Cond.selects RX2 yX2_add yX2_add ∈ zW := zW_of 637 (by decide +kernel) rfl
theorem cd_X3_init : Cond.code yX3_init cX3_init 2 none ∈ zW := zW_of 265 (by decide +kernel) rfl
theorem im_X3_init : Cond.instanceMethod yX3_init ∈ zW := zW_of 264 (by decide +kernel) rfl
theorem cd_X3_top : Cond.code yX3_top cX3_top 1 (some .int) ∈ zW := zW_of 714 (by decide +kernel) rfl
theorem im_X3_top : Cond.instanceMethod yX3_top ∈ zW := zW_of 712 (by decide +kernel) rfl
theorem se_X3_top : Cond.selects RX3 yX3_top yX3_top ∈ zW := zW_of 713 (by decide +kernel) rfl
theorem cd_X3_isFull : Cond.code yX3_isFull cX3_isFull 1 (some .boolean) ∈ zW := zW_of 694 (by decide +kernel) rfl
theorem im_X3_isFull : Cond.instanceMethod yX3_isFull ∈ zW := zW_of 692 (by decide +kernel) rfl
theorem se_X3_isFull : Cond.selects RX3 yX3_isFull yX3_isFull ∈ zW := zW_of 693 (by decide +kernel) rfl
theorem cd_X3_has : Cond.code yX3_has cX3_has 3 (some .boolean) ∈ zW := zW_of 698 (by decide +kernel) rfl
theorem im_X3_has : Cond.instanceMethod yX3_has ∈ zW := zW_of 696 (by decide +kernel) rfl
theorem se_X3_has : Cond.selects RX3 yX3_has yX3_has ∈ zW := zW_of 697 (by decide +kernel) rfl
theorem cd_X3_isOutrankedBy : Cond.code yX3_isOutrankedBy cX3_isOutrankedBy 3 (some .boolean) ∈ zW := zW_of 710 (by decide +kernel) rfl
theorem im_X3_isOutrankedBy : Cond.instanceMethod yX3_isOutrankedBy ∈ zW := zW_of 708 (by decide +kernel) rfl
theorem se_X3_isOutrankedBy : Cond.selects RX3 yX3_isOutrankedBy yX3_isOutrankedBy ∈ zW := zW_of 709 (by decide +kernel) rfl
theorem cd_X3_maySecond : Cond.code yX3_maySecond cX3_maySecond 3 (some .boolean) ∈ zW := zW_of 738 (by decide +kernel) rfl
theorem im_X3_maySecond : Cond.instanceMethod yX3_maySecond ∈ zW := zW_of 736 (by decide +kernel) rfl
theorem se_X3_maySecond : Cond.selects RX3 yX3_maySecond yX3_maySecond ∈ zW := zW_of 737 (by decide +kernel) rfl
theorem cd_X3_mayDecide : Cond.code yX3_mayDecide cX3_mayDecide 3 (some .boolean) ∈ zW := zW_of 742 (by decide +kernel) rfl
theorem im_X3_mayDecide : Cond.instanceMethod yX3_mayDecide ∈ zW := zW_of 740 (by decide +kernel) rfl
theorem se_X3_mayDecide : Cond.selects RX3 yX3_mayDecide yX3_mayDecide ∈ zW := zW_of 741 (by decide +kernel) rfl
theorem cd_X3_push : Cond.code yX3_push cX3_push 6 none ∈ zW := zW_of 800 (by decide +kernel) rfl
theorem im_X3_push : Cond.instanceMethod yX3_push ∈ zW := zW_of 798 (by decide +kernel) rfl
theorem se_X3_push : Cond.selects RX3 yX3_push yX3_push ∈ zW := zW_of 799 (by decide +kernel) rfl
theorem cd_X3_secondTop : Cond.code yX3_secondTop cX3_secondTop 2 none ∈ zW := zW_of 805 (by decide +kernel) rfl
theorem im_X3_secondTop : Cond.instanceMethod yX3_secondTop ∈ zW := zW_of 803 (by decide +kernel) rfl
theorem se_X3_secondTop : Cond.selects RX3 yX3_secondTop yX3_secondTop ∈ zW := zW_of 804 (by decide +kernel) rfl
theorem cd_X3_debateTop : Cond.code yX3_debateTop cX3_debateTop 2 none ∈ zW := zW_of 780 (by decide +kernel) rfl
theorem im_X3_debateTop : Cond.instanceMethod yX3_debateTop ∈ zW := zW_of 778 (by decide +kernel) rfl
theorem se_X3_debateTop : Cond.selects RX3 yX3_debateTop yX3_debateTop ∈ zW := zW_of 779 (by decide +kernel) rfl
theorem cd_X3_endDebate : Cond.code yX3_endDebate cX3_endDebate 2 none ∈ zW := zW_of 856 (by decide +kernel) rfl
theorem im_X3_endDebate : Cond.instanceMethod yX3_endDebate ∈ zW := zW_of 854 (by decide +kernel) rfl
theorem se_X3_endDebate : Cond.selects RX3 yX3_endDebate yX3_endDebate ∈ zW := zW_of 855 (by decide +kernel) rfl
theorem cd_X3_tell : Cond.code yX3_tell cX3_tell 3 (some .int) ∈ zW := zW_of 888 (by decide +kernel) rfl
theorem im_X3_tell : Cond.instanceMethod yX3_tell ∈ zW := zW_of 886 (by decide +kernel) rfl
theorem se_X3_tell : Cond.selects RX3 yX3_tell yX3_tell ∈ zW := zW_of 887 (by decide +kernel) rfl
theorem cd_X4_init : Cond.code yX4_init cX4_init 1 none ∈ zW := zW_of 304 (by decide +kernel) rfl
theorem im_X4_init : Cond.instanceMethod yX4_init ∈ zW := zW_of 303 (by decide +kernel) rfl
theorem cd_X4_takeAway : Cond.code yX4_takeAway cX4_takeAway 1 none ∈ zW := zW_of 342 (by decide +kernel) rfl
theorem im_X4_takeAway : Cond.instanceMethod yX4_takeAway ∈ zW := zW_of 340 (by decide +kernel) rfl
theorem se_X4_takeAway : Cond.selects RX4 yX4_takeAway yX4_takeAway ∈ zW := zW_of 341 (by decide +kernel) rfl
theorem cd_X4_lay : Cond.code yX4_lay cX4_lay 4 none ∈ zW := zW_of 826 (by decide +kernel) rfl
theorem im_X4_lay : Cond.instanceMethod yX4_lay ∈ zW := zW_of 824 (by decide +kernel) rfl
theorem se_X4_lay : Cond.selects RX4 yX4_lay yX4_lay ∈ zW := zW_of 825 (by decide +kernel) rfl
theorem cd_X4_wasEver : Cond.code yX4_wasEver cX4_wasEver 2 (some .boolean) ∈ zW := zW_of 843 (by decide +kernel) rfl
theorem im_X4_wasEver : Cond.instanceMethod yX4_wasEver ∈ zW := zW_of 841 (by decide +kernel) rfl
theorem se_X4_wasEver : Cond.selects RX4 yX4_wasEver yX4_wasEver ∈ zW := zW_of 842 (by decide +kernel) rfl
theorem cd_X4_isThere : Cond.code yX4_isThere cX4_isThere 2 (some .boolean) ∈ zW := zW_of 730 (by decide +kernel) rfl
theorem im_X4_isThere : Cond.instanceMethod yX4_isThere ∈ zW := zW_of 728 (by decide +kernel) rfl
theorem se_X4_isThere : Cond.selects RX4 yX4_isThere yX4_isThere ∈ zW := zW_of 729 (by decide +kernel) rfl
theorem cd_X4_mayAmend : Cond.code yX4_mayAmend cX4_mayAmend 3 (some .boolean) ∈ zW := zW_of 726 (by decide +kernel) rfl
theorem im_X4_mayAmend : Cond.instanceMethod yX4_mayAmend ∈ zW := zW_of 724 (by decide +kernel) rfl
theorem se_X4_mayAmend : Cond.selects RX4 yX4_mayAmend yX4_mayAmend ∈ zW := zW_of 725 (by decide +kernel) rfl
theorem cd_X4_amend : Cond.code yX4_amend cX4_amend 6 none ∈ zW := zW_of 835 (by decide +kernel) rfl
theorem im_X4_amend : Cond.instanceMethod yX4_amend ∈ zW := zW_of 833 (by decide +kernel) rfl
theorem se_X4_amend : Cond.selects RX4 yX4_amend yX4_amend ∈ zW := zW_of 834 (by decide +kernel) rfl
theorem cd_X4_numberAt : Cond.code yX4_numberAt cX4_numberAt 4 (some .int) ∈ zW := zW_of 896 (by decide +kernel) rfl
theorem im_X4_numberAt : Cond.instanceMethod yX4_numberAt ∈ zW := zW_of 894 (by decide +kernel) rfl
theorem se_X4_numberAt : Cond.selects RX4 yX4_numberAt yX4_numberAt ∈ zW := zW_of 895 (by decide +kernel) rfl
theorem cd_X4_placeOf : Cond.code yX4_placeOf cX4_placeOf 4 (some .int) ∈ zW := zW_of 905 (by decide +kernel) rfl
theorem im_X4_placeOf : Cond.instanceMethod yX4_placeOf ∈ zW := zW_of 903 (by decide +kernel) rfl
theorem se_X4_placeOf : Cond.selects RX4 yX4_placeOf yX4_placeOf ∈ zW := zW_of 904 (by decide +kernel) rfl
theorem cd_X4_textOf : Cond.code yX4_textOf cX4_textOf 2 (some .int) ∈ zW := zW_of 851 (by decide +kernel) rfl
theorem im_X4_textOf : Cond.instanceMethod yX4_textOf ∈ zW := zW_of 849 (by decide +kernel) rfl
theorem se_X4_textOf : Cond.selects RX4 yX4_textOf yX4_textOf ∈ zW := zW_of 850 (by decide +kernel) rfl
theorem cd_X4_remove : Cond.code yX4_remove cX4_remove 2 none ∈ zW := zW_of 847 (by decide +kernel) rfl
theorem im_X4_remove : Cond.instanceMethod yX4_remove ∈ zW := zW_of 846 (by decide +kernel) rfl
theorem se_X4_remove : Cond.selects RX4 yX4_remove yX4_remove ∈ zW := zW_of 20 (by decide +kernel) rfl
theorem cd_X4_behind : Cond.code yX4_behind cX4_behind 4 (some .int) ∈ zW := zW_of 734 (by decide +kernel) rfl
theorem im_X4_behind : Cond.instanceMethod yX4_behind ∈ zW := zW_of 733 (by decide +kernel) rfl
theorem se_X4_behind : Cond.selects RX4 yX4_behind yX4_behind ∈ zW := zW_of 8 (by decide +kernel) rfl
theorem cd_X4_addBehind : Cond.code yX4_addBehind cX4_addBehind 6 none ∈ zW := zW_of 839 (by decide +kernel) rfl
theorem im_X4_addBehind : Cond.instanceMethod yX4_addBehind ∈ zW := zW_of 838 (by decide +kernel) rfl
theorem se_X4_addBehind : Cond.selects RX4 yX4_addBehind yX4_addBehind ∈ zW := zW_of 19 (by decide +kernel) rfl
theorem cd_X4_insert : Cond.code yX4_insert cX4_insert 4 none ∈ zW := zW_of 831 (by decide +kernel) rfl
theorem im_X4_insert : Cond.instanceMethod yX4_insert ∈ zW := zW_of 830 (by decide +kernel) rfl
theorem se_X4_insert : Cond.selects RX4 yX4_insert yX4_insert ∈ zW := zW_of 18 (by decide +kernel) rfl
theorem cd_X5_init : Cond.code yX5_init cX5_init 3 none ∈ zW := zW_of 169 (by decide +kernel) rfl
theorem im_X5_init : Cond.instanceMethod yX5_init ∈ zW := zW_of 168 (by decide +kernel) rfl
theorem cd_X5_readTape : Cond.code yX5_readTape cX5_readTape 2 (some .int) ∈ zW := zW_of 469 (by decide +kernel) rfl
theorem im_X5_readTape : Cond.instanceMethod yX5_readTape ∈ zW := zW_of 467 (by decide +kernel) rfl
theorem se_X5_readTape : Cond.selects RX5 yX5_readTape yX5_readTape ∈ zW := zW_of 468 (by decide +kernel) rfl
theorem cd_X5_readClause : Cond.code yX5_readClause cX5_readClause 2 none ∈ zW := zW_of 482 (by decide +kernel) rfl
theorem im_X5_readClause : Cond.instanceMethod yX5_readClause ∈ zW := zW_of 480 (by decide +kernel) rfl
theorem se_X5_readClause : Cond.selects RX5 yX5_readClause yX5_readClause ∈ zW := zW_of 481 (by decide +kernel) rfl
theorem cd_X5_readMotion : Cond.code yX5_readMotion cX5_readMotion 3 none ∈ zW := zW_of 542 (by decide +kernel) rfl
theorem im_X5_readMotion : Cond.instanceMethod yX5_readMotion ∈ zW := zW_of 540 (by decide +kernel) rfl
theorem se_X5_readMotion : Cond.selects RX5 yX5_readMotion yX5_readMotion ∈ zW := zW_of 541 (by decide +kernel) rfl
theorem cd_X5_readKind : Cond.code yX5_readKind cX5_readKind 2 (some .int) ∈ zW := zW_of 546 (by decide +kernel) rfl
theorem im_X5_readKind : Cond.instanceMethod yX5_readKind ∈ zW := zW_of 544 (by decide +kernel) rfl
theorem se_X5_readKind : Cond.selects RX5 yX5_readKind yX5_readKind ∈ zW := zW_of 545 (by decide +kernel) rfl
theorem cd_X5_readWay : Cond.code yX5_readWay cX5_readWay 2 (some .int) ∈ zW := zW_of 588 (by decide +kernel) rfl
theorem im_X5_readWay : Cond.instanceMethod yX5_readWay ∈ zW := zW_of 586 (by decide +kernel) rfl
theorem se_X5_readWay : Cond.selects RX5 yX5_readWay yX5_readWay ∈ zW := zW_of 587 (by decide +kernel) rfl
theorem cd_X5_readChoice : Cond.code yX5_readChoice cX5_readChoice 3 (some .boolean) ∈ zW := zW_of 608 (by decide +kernel) rfl
theorem im_X5_readChoice : Cond.instanceMethod yX5_readChoice ∈ zW := zW_of 606 (by decide +kernel) rfl
theorem se_X5_readChoice : Cond.selects RX5 yX5_readChoice yX5_readChoice ∈ zW := zW_of 607 (by decide +kernel) rfl
theorem cd_X5_readNumber : Cond.code yX5_readNumber cX5_readNumber 5 (some .int) ∈ zW := zW_of 578 (by decide +kernel) rfl
theorem im_X5_readNumber : Cond.instanceMethod yX5_readNumber ∈ zW := zW_of 576 (by decide +kernel) rfl
theorem se_X5_readNumber : Cond.selects RX5 yX5_readNumber yX5_readNumber ∈ zW := zW_of 577 (by decide +kernel) rfl
theorem cd_X5_tellOnce : Cond.code yX5_tellOnce cX5_tellOnce 3 none ∈ zW := zW_of 600 (by decide +kernel) rfl
theorem im_X5_tellOnce : Cond.instanceMethod yX5_tellOnce ∈ zW := zW_of 598 (by decide +kernel) rfl
theorem se_X5_tellOnce : Cond.selects RX5 yX5_tellOnce yX5_tellOnce ∈ zW := zW_of 599 (by decide +kernel) rfl
theorem cd_X5_expectWord : Cond.code yX5_expectWord cX5_expectWord 2 none ∈ zW := zW_of 574 (by decide +kernel) rfl
theorem im_X5_expectWord : Cond.instanceMethod yX5_expectWord ∈ zW := zW_of 572 (by decide +kernel) rfl
theorem se_X5_expectWord : Cond.selects RX5 yX5_expectWord yX5_expectWord ∈ zW := zW_of 573 (by decide +kernel) rfl
theorem cd_X5_expectSemicolon : Cond.code yX5_expectSemicolon cX5_expectSemicolon 1 none ∈ zW := zW_of 615 (by decide +kernel) rfl
theorem im_X5_expectSemicolon : Cond.instanceMethod yX5_expectSemicolon ∈ zW := zW_of 613 (by decide +kernel) rfl
theorem se_X5_expectSemicolon : Cond.selects RX5 yX5_expectSemicolon yX5_expectSemicolon ∈ zW := zW_of 614 (by decide +kernel) rfl
theorem cd_X5_tookWord : Cond.code yX5_tookWord cX5_tookWord 4 (some .boolean) ∈ zW := zW_of 487 (by decide +kernel) rfl
theorem im_X5_tookWord : Cond.instanceMethod yX5_tookWord ∈ zW := zW_of 485 (by decide +kernel) rfl
theorem se_X5_tookWord : Cond.selects RX5 yX5_tookWord yX5_tookWord ∈ zW := zW_of 486 (by decide +kernel) rfl
theorem cd_X5_skipBlanks : Cond.code yX5_skipBlanks cX5_skipBlanks 1 none ∈ zW := zW_of 474 (by decide +kernel) rfl
theorem im_X5_skipBlanks : Cond.instanceMethod yX5_skipBlanks ∈ zW := zW_of 472 (by decide +kernel) rfl
theorem se_X5_skipBlanks : Cond.selects RX5 yX5_skipBlanks yX5_skipBlanks ∈ zW := zW_of 473 (by decide +kernel) rfl
theorem cd_X5_fail : Cond.code yX5_fail cX5_fail 3 none ∈ zW := zW_of 564 (by decide +kernel) rfl
theorem im_X5_fail : Cond.instanceMethod yX5_fail ∈ zW := zW_of 562 (by decide +kernel) rfl
theorem se_X5_fail : Cond.selects RX5 yX5_fail yX5_fail ∈ zW := zW_of 563 (by decide +kernel) rfl
theorem cd_X5_isSmallLetter : Cond.code yX5_isSmallLetter cX5_isSmallLetter 1 (some .boolean) ∈ zW := zW_of 538 (by decide +kernel) rfl
theorem sm_X5_isSmallLetter : Cond.static yX5_isSmallLetter ∈ zW := zW_of 537 (by decide +kernel) rfl
theorem cd_X5_isDigit : Cond.code yX5_isDigit cX5_isDigit 1 (some .boolean) ∈ zW := zW_of 581 (by decide +kernel) rfl
theorem sm_X5_isDigit : Cond.static yX5_isDigit ∈ zW := zW_of 580 (by decide +kernel) rfl
theorem cd_X5_kindWord : Cond.code yX5_kindWord cX5_kindWord 1 (some (.object "java/lang/String")) ∈ zW := zW_of 549 (by decide +kernel) rfl
theorem sm_X5_kindWord : Cond.static yX5_kindWord ∈ zW := zW_of 548 (by decide +kernel) rfl
theorem cd_X5_wayWord : Cond.code yX5_wayWord cX5_wayWord 1 (some (.object "java/lang/String")) ∈ zW := zW_of 591 (by decide +kernel) rfl
theorem sm_X5_wayWord : Cond.static yX5_wayWord ∈ zW := zW_of 590 (by decide +kernel) rfl
theorem cd_X6_init : Cond.code yX6_init cX6_init 1 none ∈ zW := zW_of 110 (by decide +kernel) rfl
theorem im_X6_init : Cond.instanceMethod yX6_init ∈ zW := zW_of 109 (by decide +kernel) rfl
theorem cd_X6_clear : Cond.code yX6_clear cX6_clear 2 none ∈ zW := zW_of 115 (by decide +kernel) rfl
theorem im_X6_clear : Cond.instanceMethod yX6_clear ∈ zW := zW_of 113 (by decide +kernel) rfl
theorem se_X6_clear : Cond.selects RX6 yX6_clear yX6_clear ∈ zW := zW_of 114 (by decide +kernel) rfl
theorem cd_X6_copyFrom : Cond.code yX6_copyFrom cX6_copyFrom 3 none ∈ zW := zW_of 619 (by decide +kernel) rfl
theorem im_X6_copyFrom : Cond.instanceMethod yX6_copyFrom ∈ zW := zW_of 617 (by decide +kernel) rfl
theorem se_X6_copyFrom : Cond.selects RX6 yX6_copyFrom yX6_copyFrom ∈ zW := zW_of 618 (by decide +kernel) rfl
theorem cd_X6_lets : Cond.code yX6_lets cX6_lets 2 (some .boolean) ∈ zW := zW_of 568 (by decide +kernel) rfl
theorem im_X6_lets : Cond.instanceMethod yX6_lets ∈ zW := zW_of 566 (by decide +kernel) rfl
theorem se_X6_lets : Cond.selects RX6 yX6_lets yX6_lets ∈ zW := zW_of 567 (by decide +kernel) rfl
theorem cd_X6_rankOf : Cond.code yX6_rankOf cX6_rankOf 2 (some .int) ∈ zW := zW_of 718 (by decide +kernel) rfl
theorem im_X6_rankOf : Cond.instanceMethod yX6_rankOf ∈ zW := zW_of 716 (by decide +kernel) rfl
theorem se_X6_rankOf : Cond.selects RX6 yX6_rankOf yX6_rankOf ∈ zW := zW_of 717 (by decide +kernel) rfl
theorem cd_X7_init : Cond.code yX7_init cX7_init 4 none ∈ zW := zW_of 222 (by decide +kernel) rfl
theorem im_X7_init : Cond.instanceMethod yX7_init ∈ zW := zW_of 221 (by decide +kernel) rfl
theorem cd_X7_startAnew : Cond.code yX7_startAnew cX7_startAnew 1 none ∈ zW := zW_of 330 (by decide +kernel) rfl
theorem im_X7_startAnew : Cond.instanceMethod yX7_startAnew ∈ zW := zW_of 328 (by decide +kernel) rfl
theorem se_X7_startAnew : Cond.selects RX7 yX7_startAnew yX7_startAnew ∈ zW := zW_of 329 (by decide +kernel) rfl
theorem cd_X7_work : Cond.code yX7_work cX7_work 4 (some .boolean) ∈ zW := zW_of 645 (by decide +kernel) rfl
theorem im_X7_work : Cond.instanceMethod yX7_work ∈ zW := zW_of 643 (by decide +kernel) rfl
theorem se_X7_work : Cond.selects RX7 yX7_work yX7_work ∈ zW := zW_of 644 (by decide +kernel) rfl
theorem cd_X7_rulingOf : Cond.code yX7_rulingOf cX7_rulingOf 2 (some .int) ∈ zW := zW_of 860 (by decide +kernel) rfl
theorem im_X7_rulingOf : Cond.instanceMethod yX7_rulingOf ∈ zW := zW_of 858 (by decide +kernel) rfl
theorem se_X7_rulingOf : Cond.selects RX7 yX7_rulingOf yX7_rulingOf ∈ zW := zW_of 859 (by decide +kernel) rfl
theorem cd_X7_passedOf : Cond.code yX7_passedOf cX7_passedOf 2 (some .int) ∈ zW := zW_of 872 (by decide +kernel) rfl
theorem im_X7_passedOf : Cond.instanceMethod yX7_passedOf ∈ zW := zW_of 870 (by decide +kernel) rfl
theorem se_X7_passedOf : Cond.selects RX7 yX7_passedOf yX7_passedOf ∈ zW := zW_of 871 (by decide +kernel) rfl
theorem cd_X7_overturnedOf : Cond.code yX7_overturnedOf cX7_overturnedOf 2 (some .int) ∈ zW := zW_of 926 (by decide +kernel) rfl
theorem im_X7_overturnedOf : Cond.instanceMethod yX7_overturnedOf ∈ zW := zW_of 924 (by decide +kernel) rfl
theorem se_X7_overturnedOf : Cond.selects RX7 yX7_overturnedOf yX7_overturnedOf ∈ zW := zW_of 925 (by decide +kernel) rfl
theorem cd_X7_tell : Cond.code yX7_tell cX7_tell 2 (some .int) ∈ zW := zW_of 880 (by decide +kernel) rfl
theorem im_X7_tell : Cond.instanceMethod yX7_tell ∈ zW := zW_of 878 (by decide +kernel) rfl
theorem se_X7_tell : Cond.selects RX7 yX7_tell yX7_tell ∈ zW := zW_of 879 (by decide +kernel) rfl
theorem cd_X7_isWorked : Cond.code yX7_isWorked cX7_isWorked 2 (some .boolean) ∈ zW := zW_of 706 (by decide +kernel) rfl
theorem im_X7_isWorked : Cond.instanceMethod yX7_isWorked ∈ zW := zW_of 705 (by decide +kernel) rfl
theorem se_X7_isWorked : Cond.selects RX7 yX7_isWorked yX7_isWorked ∈ zW := zW_of 6 (by decide +kernel) rfl
theorem cd_X7_isThere : Cond.code yX7_isThere cX7_isThere 2 (some .boolean) ∈ zW := zW_of 663 (by decide +kernel) rfl
theorem im_X7_isThere : Cond.instanceMethod yX7_isThere ∈ zW := zW_of 662 (by decide +kernel) rfl
theorem se_X7_isThere : Cond.selects RX7 yX7_isThere yX7_isThere ∈ zW := zW_of 2 (by decide +kernel) rfl
theorem cd_X7_refusalAtLarge : Cond.code yX7_refusalAtLarge cX7_refusalAtLarge 3 (some .int) ∈ zW := zW_of 650 (by decide +kernel) rfl
theorem im_X7_refusalAtLarge : Cond.instanceMethod yX7_refusalAtLarge ∈ zW := zW_of 649 (by decide +kernel) rfl
theorem se_X7_refusalAtLarge : Cond.selects RX7 yX7_refusalAtLarge yX7_refusalAtLarge ∈ zW := zW_of 0 (by decide +kernel) rfl
theorem cd_X7_isOfMember : Cond.code yX7_isOfMember cX7_isOfMember 1 (some .boolean) ∈ zW := zW_of 659 (by decide +kernel) rfl
theorem sm_X7_isOfMember : Cond.static yX7_isOfMember ∈ zW := zW_of 658 (by decide +kernel) rfl
theorem cd_X7_numbersAreAsTold : Cond.code yX7_numbersAreAsTold cX7_numbersAreAsTold 4 (some .boolean) ∈ zW := zW_of 654 (by decide +kernel) rfl
theorem im_X7_numbersAreAsTold : Cond.instanceMethod yX7_numbersAreAsTold ∈ zW := zW_of 653 (by decide +kernel) rfl
theorem se_X7_numbersAreAsTold : Cond.selects RX7 yX7_numbersAreAsTold yX7_numbersAreAsTold ∈ zW := zW_of 1 (by decide +kernel) rfl
theorem cd_X7_isInOrder : Cond.code yX7_isInOrder cX7_isInOrder 3 (some .boolean) ∈ zW := zW_of 673 (by decide +kernel) rfl
theorem im_X7_isInOrder : Cond.instanceMethod yX7_isInOrder ∈ zW := zW_of 672 (by decide +kernel) rfl
theorem se_X7_isInOrder : Cond.selects RX7 yX7_isInOrder yX7_isInOrder ∈ zW := zW_of 3 (by decide +kernel) rfl
theorem cd_X7_mayMove : Cond.code yX7_mayMove cX7_mayMove 3 (some .boolean) ∈ zW := zW_of 689 (by decide +kernel) rfl
theorem im_X7_mayMove : Cond.instanceMethod yX7_mayMove ∈ zW := zW_of 688 (by decide +kernel) rfl
theorem se_X7_mayMove : Cond.selects RX7 yX7_mayMove yX7_mayMove ∈ zW := zW_of 4 (by decide +kernel) rfl
theorem cd_X7_mayMoveKind : Cond.code yX7_mayMoveKind cX7_mayMoveKind 3 (some .boolean) ∈ zW := zW_of 722 (by decide +kernel) rfl
theorem im_X7_mayMoveKind : Cond.instanceMethod yX7_mayMoveKind ∈ zW := zW_of 721 (by decide +kernel) rfl
theorem se_X7_mayMoveKind : Cond.selects RX7 yX7_mayMoveKind yX7_mayMoveKind ∈ zW := zW_of 7 (by decide +kernel) rfl
theorem cd_X7_mayAppeal : Cond.code yX7_mayAppeal cX7_mayAppeal 1 (some .boolean) ∈ zW := zW_of 702 (by decide +kernel) rfl
theorem im_X7_mayAppeal : Cond.instanceMethod yX7_mayAppeal ∈ zW := zW_of 701 (by decide +kernel) rfl
theorem se_X7_mayAppeal : Cond.selects RX7 yX7_mayAppeal yX7_mayAppeal ∈ zW := zW_of 5 (by decide +kernel) rfl
theorem cd_X7_hasOther : Cond.code yX7_hasOther cX7_hasOther 3 (some .boolean) ∈ zW := zW_of 747 (by decide +kernel) rfl
theorem im_X7_hasOther : Cond.instanceMethod yX7_hasOther ∈ zW := zW_of 746 (by decide +kernel) rfl
theorem se_X7_hasOther : Cond.selects RX7 yX7_hasOther yX7_hasOther ∈ zW := zW_of 9 (by decide +kernel) rfl
theorem cd_X7_perform : Cond.code yX7_perform cX7_perform 3 none ∈ zW := zW_of 751 (by decide +kernel) rfl
theorem im_X7_perform : Cond.instanceMethod yX7_perform ∈ zW := zW_of 750 (by decide +kernel) rfl
theorem se_X7_perform : Cond.selects RX7 yX7_perform yX7_perform ∈ zW := zW_of 10 (by decide +kernel) rfl
theorem cd_X7_letTicksGo : Cond.code yX7_letTicksGo cX7_letTicksGo 2 none ∈ zW := zW_of 784 (by decide +kernel) rfl
theorem im_X7_letTicksGo : Cond.instanceMethod yX7_letTicksGo ∈ zW := zW_of 783 (by decide +kernel) rfl
theorem se_X7_letTicksGo : Cond.selects RX7 yX7_letTicksGo yX7_letTicksGo ∈ zW := zW_of 13 (by decide +kernel) rfl
theorem cd_X7_decide : Cond.code yX7_decide cX7_decide 5 none ∈ zW := zW_of 809 (by decide +kernel) rfl
theorem im_X7_decide : Cond.instanceMethod yX7_decide ∈ zW := zW_of 808 (by decide +kernel) rfl
theorem se_X7_decide : Cond.selects RX7 yX7_decide yX7_decide ∈ zW := zW_of 14 (by decide +kernel) rfl
theorem cd_X7_isCarried : Cond.code yX7_isCarried cX7_isCarried 6 (some .boolean) ∈ zW := zW_of 814 (by decide +kernel) rfl
theorem im_X7_isCarried : Cond.instanceMethod yX7_isCarried ∈ zW := zW_of 813 (by decide +kernel) rfl
theorem se_X7_isCarried : Cond.selects RX7 yX7_isCarried yX7_isCarried ∈ zW := zW_of 15 (by decide +kernel) rfl
theorem cd_X7_settleAppeal : Cond.code yX7_settleAppeal cX7_settleAppeal 3 none ∈ zW := zW_of 818 (by decide +kernel) rfl
theorem im_X7_settleAppeal : Cond.instanceMethod yX7_settleAppeal ∈ zW := zW_of 817 (by decide +kernel) rfl
theorem se_X7_settleAppeal : Cond.selects RX7 yX7_settleAppeal yX7_settleAppeal ∈ zW := zW_of 16 (by decide +kernel) rfl
theorem cd_X7_carryOut : Cond.code yX7_carryOut cX7_carryOut 4 none ∈ zW := zW_of 822 (by decide +kernel) rfl
theorem im_X7_carryOut : Cond.instanceMethod yX7_carryOut ∈ zW := zW_of 821 (by decide +kernel) rfl
theorem se_X7_carryOut : Cond.selects RX7 yX7_carryOut yX7_carryOut ∈ zW := zW_of 17 (by decide +kernel) rfl
theorem cd_X8_init : Cond.code yX8_init cX8_init 1 none ∈ zW := zW_of 94 (by decide +kernel) rfl
theorem im_X8_init : Cond.instanceMethod yX8_init ∈ zW := zW_of 93 (by decide +kernel) rfl
theorem cd_X8_append : Cond.code yX8_append cX8_append 3 none ∈ zW := zW_of 457 (by decide +kernel) rfl
theorem im_X8_append : Cond.instanceMethod yX8_append ∈ zW := zW_of 455 (by decide +kernel) rfl
theorem se_X8_append : Cond.selects RX8 yX8_append yX8_append ∈ zW := zW_of 456 (by decide +kernel) rfl
theorem cd_X8_byteAt : Cond.code yX8_byteAt cX8_byteAt 2 (some .int) ∈ zW := zW_of 478 (by decide +kernel) rfl
theorem im_X8_byteAt : Cond.instanceMethod yX8_byteAt ∈ zW := zW_of 476 (by decide +kernel) rfl
theorem se_X8_byteAt : Cond.selects RX8 yX8_byteAt yX8_byteAt ∈ zW := zW_of 477 (by decide +kernel) rfl
theorem cd_X9_init : Cond.code yX9_init cX9_init 1 none ∈ zW := zW_of 86 (by decide +kernel) rfl
theorem im_X9_init : Cond.instanceMethod yX9_init ∈ zW := zW_of 85 (by decide +kernel) rfl
theorem cd_X9_feed : Cond.code yX9_feed cX9_feed 6 (some .int) ∈ zW := zW_of 453 (by decide +kernel) rfl
theorem im_X9_feed : Cond.instanceMethod yX9_feed ∈ zW := zW_of 451 (by decide +kernel) rfl
theorem se_X9_feed : Cond.selects RX9 yX9_feed yX9_feed ∈ zW := zW_of 452 (by decide +kernel) rfl
theorem cd_X9_end : Cond.code yX9_end cX9_end 2 (some .int) ∈ zW := zW_of 461 (by decide +kernel) rfl
theorem im_X9_end : Cond.instanceMethod yX9_end ∈ zW := zW_of 459 (by decide +kernel) rfl
theorem se_X9_end : Cond.selects RX9 yX9_end yX9_end ∈ zW := zW_of 460 (by decide +kernel) rfl
theorem cd_X9_rules : Cond.code yX9_rules cX9_rules 2 (some .int) ∈ zW := zW_of 465 (by decide +kernel) rfl
theorem im_X9_rules : Cond.instanceMethod yX9_rules ∈ zW := zW_of 463 (by decide +kernel) rfl
theorem se_X9_rules : Cond.selects RX9 yX9_rules yX9_rules ∈ zW := zW_of 464 (by decide +kernel) rfl
theorem cd_X9_school : Cond.code yX9_school cX9_school 3 (some .boolean) ∈ zW := zW_of 624 (by decide +kernel) rfl
theorem im_X9_school : Cond.instanceMethod yX9_school ∈ zW := zW_of 622 (by decide +kernel) rfl
theorem se_X9_school : Cond.selects RX9 yX9_school yX9_school ∈ zW := zW_of 623 (by decide +kernel) rfl
theorem cd_X9_act : Cond.code yX9_act cX9_act 7 (some .int) ∈ zW := zW_of 634 (by decide +kernel) rfl
theorem im_X9_act : Cond.instanceMethod yX9_act ∈ zW := zW_of 632 (by decide +kernel) rfl
theorem se_X9_act : Cond.selects RX9 yX9_act yX9_act ∈ zW := zW_of 633 (by decide +kernel) rfl
theorem cd_X9_ruling : Cond.code yX9_ruling cX9_ruling 2 (some .int) ∈ zW := zW_of 864 (by decide +kernel) rfl
theorem im_X9_ruling : Cond.instanceMethod yX9_ruling ∈ zW := zW_of 862 (by decide +kernel) rfl
theorem se_X9_ruling : Cond.selects RX9 yX9_ruling yX9_ruling ∈ zW := zW_of 863 (by decide +kernel) rfl
theorem cd_X9_passed : Cond.code yX9_passed cX9_passed 2 (some .int) ∈ zW := zW_of 868 (by decide +kernel) rfl
theorem im_X9_passed : Cond.instanceMethod yX9_passed ∈ zW := zW_of 866 (by decide +kernel) rfl
theorem se_X9_passed : Cond.selects RX9 yX9_passed yX9_passed ∈ zW := zW_of 867 (by decide +kernel) rfl
theorem cd_X9_state : Cond.code yX9_state cX9_state 2 (some .int) ∈ zW := zW_of 876 (by decide +kernel) rfl
theorem im_X9_state : Cond.instanceMethod yX9_state ∈ zW := zW_of 874 (by decide +kernel) rfl
theorem se_X9_state : Cond.selects RX9 yX9_state yX9_state ∈ zW := zW_of 875 (by decide +kernel) rfl
theorem cd_X9_pending : Cond.code yX9_pending cX9_pending 3 (some .int) ∈ zW := zW_of 884 (by decide +kernel) rfl
theorem im_X9_pending : Cond.instanceMethod yX9_pending ∈ zW := zW_of 882 (by decide +kernel) rfl
theorem se_X9_pending : Cond.selects RX9 yX9_pending yX9_pending ∈ zW := zW_of 883 (by decide +kernel) rfl
theorem cd_X9_clause : Cond.code yX9_clause cX9_clause 4 (some .int) ∈ zW := zW_of 892 (by decide +kernel) rfl
theorem im_X9_clause : Cond.instanceMethod yX9_clause ∈ zW := zW_of 890 (by decide +kernel) rfl
theorem se_X9_clause : Cond.selects RX9 yX9_clause yX9_clause ∈ zW := zW_of 891 (by decide +kernel) rfl
theorem cd_X9_place : Cond.code yX9_place cX9_place 2 (some .int) ∈ zW := zW_of 901 (by decide +kernel) rfl
theorem im_X9_place : Cond.instanceMethod yX9_place ∈ zW := zW_of 899 (by decide +kernel) rfl
theorem se_X9_place : Cond.selects RX9 yX9_place yX9_place ∈ zW := zW_of 900 (by decide +kernel) rfl
theorem cd_X9_speeches : Cond.code yX9_speeches cX9_speeches 2 (some .int) ∈ zW := zW_of 909 (by decide +kernel) rfl
theorem im_X9_speeches : Cond.instanceMethod yX9_speeches ∈ zW := zW_of 907 (by decide +kernel) rfl
theorem se_X9_speeches : Cond.selects RX9 yX9_speeches yX9_speeches ∈ zW := zW_of 908 (by decide +kernel) rfl
theorem cd_X9_waits : Cond.code yX9_waits cX9_waits 3 (some .int) ∈ zW := zW_of 913 (by decide +kernel) rfl
theorem im_X9_waits : Cond.instanceMethod yX9_waits ∈ zW := zW_of 911 (by decide +kernel) rfl
theorem se_X9_waits : Cond.selects RX9 yX9_waits yX9_waits ∈ zW := zW_of 912 (by decide +kernel) rfl
theorem cd_X9_overturned : Cond.code yX9_overturned cX9_overturned 2 (some .int) ∈ zW := zW_of 922 (by decide +kernel) rfl
theorem im_X9_overturned : Cond.instanceMethod yX9_overturned ∈ zW := zW_of 920 (by decide +kernel) rfl
theorem se_X9_overturned : Cond.selects RX9 yX9_overturned yX9_overturned ∈ zW := zW_of 921 (by decide +kernel) rfl
theorem cd_X9_beside : Cond.code yX9_beside cX9_beside 4 (some .int) ∈ zW := zW_of 930 (by decide +kernel) rfl
theorem im_X9_beside : Cond.instanceMethod yX9_beside ∈ zW := zW_of 928 (by decide +kernel) rfl
theorem se_X9_beside : Cond.selects RX9 yX9_beside yX9_beside ∈ zW := zW_of 929 (by decide +kernel) rfl
theorem cd_X9_score : Cond.code yX9_score cX9_score 5 (some .boolean) ∈ zW := zW_of 934 (by decide +kernel) rfl
theorem im_X9_score : Cond.instanceMethod yX9_score ∈ zW := zW_of 932 (by decide +kernel) rfl
theorem se_X9_score : Cond.selects RX9 yX9_score yX9_score ∈ zW := zW_of 933 (by decide +kernel) rfl
theorem cd_X9_mean : Cond.code yX9_mean cX9_mean 2 (some .int) ∈ zW := zW_of 944 (by decide +kernel) rfl
theorem im_X9_mean : Cond.instanceMethod yX9_mean ∈ zW := zW_of 942 (by decide +kernel) rfl
theorem se_X9_mean : Cond.selects RX9 yX9_mean yX9_mean ∈ zW := zW_of 943 (by decide +kernel) rfl
theorem cd_X9_award : Cond.code yX9_award cX9_award 2 (some .int) ∈ zW := zW_of 964 (by decide +kernel) rfl
theorem im_X9_award : Cond.instanceMethod yX9_award ∈ zW := zW_of 962 (by decide +kernel) rfl
theorem se_X9_award : Cond.selects RX9 yX9_award yX9_award ∈ zW := zW_of 963 (by decide +kernel) rfl
theorem cd_X9_told : Cond.code yX9_told cX9_told 2 (some .int) ∈ zW := zW_of 977 (by decide +kernel) rfl
theorem im_X9_told : Cond.instanceMethod yX9_told ∈ zW := zW_of 975 (by decide +kernel) rfl
theorem se_X9_told : Cond.selects RX9 yX9_told yX9_told ∈ zW := zW_of 976 (by decide +kernel) rfl
theorem cd_X9_isMember : Cond.code yX9_isMember cX9_isMember 1 (some .boolean) ∈ zW := zW_of 627 (by decide +kernel) rfl
theorem sm_X9_isMember : Cond.static yX9_isMember ∈ zW := zW_of 626 (by decide +kernel) rfl
theorem cd_X9_isSchool : Cond.code yX9_isSchool cX9_isSchool 1 (some .boolean) ∈ zW := zW_of 630 (by decide +kernel) rfl
theorem sm_X9_isSchool : Cond.static yX9_isSchool ∈ zW := zW_of 629 (by decide +kernel) rfl
theorem cd_X9_isKind : Cond.code yX9_isKind cX9_isKind 1 (some .boolean) ∈ zW := zW_of 560 (by decide +kernel) rfl
theorem sm_X9_isKind : Cond.static yX9_isKind ∈ zW := zW_of 559 (by decide +kernel) rfl
theorem cd_X9_isActNumber : Cond.code yX9_isActNumber cX9_isActNumber 1 (some .boolean) ∈ zW := zW_of 641 (by decide +kernel) rfl
theorem sm_X9_isActNumber : Cond.static yX9_isActNumber ∈ zW := zW_of 640 (by decide +kernel) rfl
theorem cd_X10_init : Cond.code yX10_init cX10_init 1 none ∈ zW := zW_of 982 (by decide +kernel) rfl
theorem im_X10_init : Cond.instanceMethod yX10_init ∈ zW := zW_of 981 (by decide +kernel) rfl
theorem cd_X10_in : Cond.code yX10_in cX10_in 3 (some .boolean) ∈ zW := zW_of 1245 (by decide +kernel) rfl
theorem sm_X10_in : Cond.static yX10_in ∈ zW := zW_of 1244 (by decide +kernel) rfl
theorem cd_X10_feed : Cond.code yX10_feed cX10_feed 6 (some .int) ∈ zW := zW_of 1177 (by decide +kernel) rfl
theorem im_X10_feed : Cond.instanceMethod yX10_feed ∈ zW := zW_of 1175 (by decide +kernel) rfl
theorem se_X10_feed : Cond.selects RX10 yX10_feed yX10_feed ∈ zW := zW_of 1176 (by decide +kernel) rfl
theorem cd_X10_put : Cond.code yX10_put cX10_put 3 none ∈ zW := zW_of 1181 (by decide +kernel) rfl
theorem im_X10_put : Cond.instanceMethod yX10_put ∈ zW := zW_of 1180 (by decide +kernel) rfl
theorem se_X10_put : Cond.selects RX10 yX10_put yX10_put ∈ zW := zW_of 25 (by decide +kernel) rfl
theorem cd_X10_end : Cond.code yX10_end cX10_end 2 (some .int) ∈ zW := zW_of 1185 (by decide +kernel) rfl
theorem im_X10_end : Cond.instanceMethod yX10_end ∈ zW := zW_of 1183 (by decide +kernel) rfl
theorem se_X10_end : Cond.selects RX10 yX10_end yX10_end ∈ zW := zW_of 1184 (by decide +kernel) rfl
theorem cd_X10_fails : Cond.code yX10_fails cX10_fails 3 none ∈ zW := zW_of 1209 (by decide +kernel) rfl
theorem im_X10_fails : Cond.instanceMethod yX10_fails ∈ zW := zW_of 1208 (by decide +kernel) rfl
theorem se_X10_fails : Cond.selects RX10 yX10_fails yX10_fails ∈ zW := zW_of 30 (by decide +kernel) rfl
theorem cd_X10_isEnd : Cond.code yX10_isEnd cX10_isEnd 1 (some .boolean) ∈ zW := zW_of 1193 (by decide +kernel) rfl
theorem im_X10_isEnd : Cond.instanceMethod yX10_isEnd ∈ zW := zW_of 1192 (by decide +kernel) rfl
theorem se_X10_isEnd : Cond.selects RX10 yX10_isEnd yX10_isEnd ∈ zW := zW_of 26 (by decide +kernel) rfl
theorem cd_X10_isLetter : Cond.code yX10_isLetter cX10_isLetter 1 (some .boolean) ∈ zW := zW_of 1205 (by decide +kernel) rfl
theorem im_X10_isLetter : Cond.instanceMethod yX10_isLetter ∈ zW := zW_of 1204 (by decide +kernel) rfl
theorem se_X10_isLetter : Cond.selects RX10 yX10_isLetter yX10_isLetter ∈ zW := zW_of 29 (by decide +kernel) rfl
theorem cd_X10_word : Cond.code yX10_word cX10_word 1 none ∈ zW := zW_of 1201 (by decide +kernel) rfl
theorem im_X10_word : Cond.instanceMethod yX10_word ∈ zW := zW_of 1200 (by decide +kernel) rfl
theorem se_X10_word : Cond.selects RX10 yX10_word yX10_word ∈ zW := zW_of 28 (by decide +kernel) rfl
theorem cd_X10_is : Cond.code yX10_is cX10_is 4 (some .boolean) ∈ zW := zW_of 1214 (by decide +kernel) rfl
theorem im_X10_is : Cond.instanceMethod yX10_is ∈ zW := zW_of 1213 (by decide +kernel) rfl
theorem se_X10_is : Cond.selects RX10 yX10_is yX10_is ∈ zW := zW_of 31 (by decide +kernel) rfl
theorem cd_X10_number : Cond.code yX10_number cX10_number 4 (some .int) ∈ zW := zW_of 1241 (by decide +kernel) rfl
theorem im_X10_number : Cond.instanceMethod yX10_number ∈ zW := zW_of 1240 (by decide +kernel) rfl
theorem se_X10_number : Cond.selects RX10 yX10_number yX10_number ∈ zW := zW_of 35 (by decide +kernel) rfl
theorem cd_X10_kindOf : Cond.code yX10_kindOf cX10_kindOf 2 (some (.object "java/lang/String")) ∈ zW := zW_of 1224 (by decide +kernel) rfl
theorem im_X10_kindOf : Cond.instanceMethod yX10_kindOf ∈ zW := zW_of 1223 (by decide +kernel) rfl
theorem se_X10_kindOf : Cond.selects RX10 yX10_kindOf yX10_kindOf ∈ zW := zW_of 33 (by decide +kernel) rfl
theorem cd_X10_wayOf : Cond.code yX10_wayOf cX10_wayOf 2 (some (.object "java/lang/String")) ∈ zW := zW_of 1252 (by decide +kernel) rfl
theorem im_X10_wayOf : Cond.instanceMethod yX10_wayOf ∈ zW := zW_of 1251 (by decide +kernel) rfl
theorem se_X10_wayOf : Cond.selects RX10 yX10_wayOf yX10_wayOf ∈ zW := zW_of 36 (by decide +kernel) rfl
theorem cd_X10_clauseOf : Cond.code yX10_clauseOf cX10_clauseOf 2 (some (.object "java/lang/String")) ∈ zW := zW_of 1260 (by decide +kernel) rfl
theorem im_X10_clauseOf : Cond.instanceMethod yX10_clauseOf ∈ zW := zW_of 1259 (by decide +kernel) rfl
theorem se_X10_clauseOf : Cond.selects RX10 yX10_clauseOf yX10_clauseOf ∈ zW := zW_of 37 (by decide +kernel) rfl
theorem cd_X10_one : Cond.code yX10_one cX10_one 3 (some .boolean) ∈ zW := zW_of 1237 (by decide +kernel) rfl
theorem im_X10_one : Cond.instanceMethod yX10_one ∈ zW := zW_of 1236 (by decide +kernel) rfl
theorem se_X10_one : Cond.selects RX10 yX10_one yX10_one ∈ zW := zW_of 34 (by decide +kernel) rfl
theorem cd_X10_motion : Cond.code yX10_motion cX10_motion 3 none ∈ zW := zW_of 1220 (by decide +kernel) rfl
theorem im_X10_motion : Cond.instanceMethod yX10_motion ∈ zW := zW_of 1219 (by decide +kernel) rfl
theorem se_X10_motion : Cond.selects RX10 yX10_motion yX10_motion ∈ zW := zW_of 32 (by decide +kernel) rfl
theorem cd_X10_clause : Cond.code yX10_clause cX10_clause 2 none ∈ zW := zW_of 1197 (by decide +kernel) rfl
theorem im_X10_clause : Cond.instanceMethod yX10_clause ∈ zW := zW_of 1196 (by decide +kernel) rfl
theorem se_X10_clause : Cond.selects RX10 yX10_clause yX10_clause ∈ zW := zW_of 27 (by decide +kernel) rfl
theorem cd_X10_rules : Cond.code yX10_rules cX10_rules 2 (some .int) ∈ zW := zW_of 1189 (by decide +kernel) rfl
theorem im_X10_rules : Cond.instanceMethod yX10_rules ∈ zW := zW_of 1187 (by decide +kernel) rfl
theorem se_X10_rules : Cond.selects RX10 yX10_rules yX10_rules ∈ zW := zW_of 1188 (by decide +kernel) rfl
theorem cd_X10_school : Cond.code yX10_school cX10_school 3 (some .boolean) ∈ zW := zW_of 1272 (by decide +kernel) rfl
theorem im_X10_school : Cond.instanceMethod yX10_school ∈ zW := zW_of 1270 (by decide +kernel) rfl
theorem se_X10_school : Cond.selects RX10 yX10_school yX10_school ∈ zW := zW_of 1271 (by decide +kernel) rfl
theorem cd_X10_begin : Cond.code yX10_begin cX10_begin 2 none ∈ zW := zW_of 990 (by decide +kernel) rfl
theorem im_X10_begin : Cond.instanceMethod yX10_begin ∈ zW := zW_of 989 (by decide +kernel) rfl
theorem se_X10_begin : Cond.selects RX10 yX10_begin yX10_begin ∈ zW := zW_of 24 (by decide +kernel) rfl
theorem cd_X10_there : Cond.code yX10_there cX10_there 3 (some .int) ∈ zW := zW_of 1292 (by decide +kernel) rfl
theorem im_X10_there : Cond.instanceMethod yX10_there ∈ zW := zW_of 1291 (by decide +kernel) rfl
theorem se_X10_there : Cond.selects RX10 yX10_there yX10_there ∈ zW := zW_of 41 (by decide +kernel) rfl
theorem cd_X10_waitsFor : Cond.code yX10_waitsFor cX10_waitsFor 3 (some .boolean) ∈ zW := zW_of 1300 (by decide +kernel) rfl
theorem im_X10_waitsFor : Cond.instanceMethod yX10_waitsFor ∈ zW := zW_of 1299 (by decide +kernel) rfl
theorem se_X10_waitsFor : Cond.selects RX10 yX10_waitsFor yX10_waitsFor ∈ zW := zW_of 43 (by decide +kernel) rfl
theorem cd_X10_leaves : Cond.code yX10_leaves cX10_leaves 4 none ∈ zW := zW_of 1324 (by decide +kernel) rfl
theorem im_X10_leaves : Cond.instanceMethod yX10_leaves ∈ zW := zW_of 1323 (by decide +kernel) rfl
theorem se_X10_leaves : Cond.selects RX10 yX10_leaves yX10_leaves ∈ zW := zW_of 49 (by decide +kernel) rfl
theorem cd_X10_free : Cond.code yX10_free cX10_free 1 none ∈ zW := zW_of 1328 (by decide +kernel) rfl
theorem im_X10_free : Cond.instanceMethod yX10_free ∈ zW := zW_of 1327 (by decide +kernel) rfl
theorem se_X10_free : Cond.selects RX10 yX10_free yX10_free ∈ zW := zW_of 50 (by decide +kernel) rfl
theorem cd_X10_spoke : Cond.code yX10_spoke cX10_spoke 5 (some .int) ∈ zW := zW_of 1336 (by decide +kernel) rfl
theorem im_X10_spoke : Cond.instanceMethod yX10_spoke ∈ zW := zW_of 1335 (by decide +kernel) rfl
theorem se_X10_spoke : Cond.selects RX10 yX10_spoke yX10_spoke ∈ zW := zW_of 52 (by decide +kernel) rfl
theorem cd_X10_next : Cond.code yX10_next cX10_next 6 (some .int) ∈ zW := zW_of 1332 (by decide +kernel) rfl
theorem im_X10_next : Cond.instanceMethod yX10_next ∈ zW := zW_of 1331 (by decide +kernel) rfl
theorem se_X10_next : Cond.selects RX10 yX10_next yX10_next ∈ zW := zW_of 51 (by decide +kernel) rfl
theorem cd_X10_rule : Cond.code yX10_rule cX10_rule 5 (some .int) ∈ zW := zW_of 1284 (by decide +kernel) rfl
theorem im_X10_rule : Cond.instanceMethod yX10_rule ∈ zW := zW_of 1283 (by decide +kernel) rfl
theorem se_X10_rule : Cond.selects RX10 yX10_rule yX10_rule ∈ zW := zW_of 39 (by decide +kernel) rfl
theorem cd_X10_isWrong : Cond.code yX10_isWrong cX10_isWrong 7 (some .boolean) ∈ zW := zW_of 1288 (by decide +kernel) rfl
theorem im_X10_isWrong : Cond.instanceMethod yX10_isWrong ∈ zW := zW_of 1287 (by decide +kernel) rfl
theorem se_X10_isWrong : Cond.selects RX10 yX10_isWrong yX10_isWrong ∈ zW := zW_of 40 (by decide +kernel) rfl
theorem cd_X10_isInOrder : Cond.code yX10_isInOrder cX10_isInOrder 5 (some .boolean) ∈ zW := zW_of 1296 (by decide +kernel) rfl
theorem im_X10_isInOrder : Cond.instanceMethod yX10_isInOrder ∈ zW := zW_of 1295 (by decide +kernel) rfl
theorem se_X10_isInOrder : Cond.selects RX10 yX10_isInOrder yX10_isInOrder ∈ zW := zW_of 42 (by decide +kernel) rfl
theorem cd_X10_refused : Cond.code yX10_refused cX10_refused 3 (some .int) ∈ zW := zW_of 1308 (by decide +kernel) rfl
theorem im_X10_refused : Cond.instanceMethod yX10_refused ∈ zW := zW_of 1307 (by decide +kernel) rfl
theorem se_X10_refused : Cond.selects RX10 yX10_refused yX10_refused ∈ zW := zW_of 45 (by decide +kernel) rfl
theorem cd_X10_mayMove : Cond.code yX10_mayMove cX10_mayMove 6 (some .boolean) ∈ zW := zW_of 1304 (by decide +kernel) rfl
theorem im_X10_mayMove : Cond.instanceMethod yX10_mayMove ∈ zW := zW_of 1303 (by decide +kernel) rfl
theorem se_X10_mayMove : Cond.selects RX10 yX10_mayMove yX10_mayMove ∈ zW := zW_of 44 (by decide +kernel) rfl
theorem cd_X10_placeOf : Cond.code yX10_placeOf cX10_placeOf 3 (some .int) ∈ zW := zW_of 1316 (by decide +kernel) rfl
theorem im_X10_placeOf : Cond.instanceMethod yX10_placeOf ∈ zW := zW_of 1315 (by decide +kernel) rfl
theorem se_X10_placeOf : Cond.selects RX10 yX10_placeOf yX10_placeOf ∈ zW := zW_of 47 (by decide +kernel) rfl
theorem cd_X10_mayAmend : Cond.code yX10_mayAmend cX10_mayAmend 3 (some .boolean) ∈ zW := zW_of 1312 (by decide +kernel) rfl
theorem im_X10_mayAmend : Cond.instanceMethod yX10_mayAmend ∈ zW := zW_of 1311 (by decide +kernel) rfl
theorem se_X10_mayAmend : Cond.selects RX10 yX10_mayAmend yX10_mayAmend ∈ zW := zW_of 46 (by decide +kernel) rfl
theorem cd_X10_does : Cond.code yX10_does cX10_does 4 none ∈ zW := zW_of 1320 (by decide +kernel) rfl
theorem im_X10_does : Cond.instanceMethod yX10_does ∈ zW := zW_of 1319 (by decide +kernel) rfl
theorem se_X10_does : Cond.selects RX10 yX10_does yX10_does ∈ zW := zW_of 48 (by decide +kernel) rfl
theorem cd_X10_moves : Cond.code yX10_moves cX10_moves 3 none ∈ zW := zW_of 1340 (by decide +kernel) rfl
theorem im_X10_moves : Cond.instanceMethod yX10_moves ∈ zW := zW_of 1339 (by decide +kernel) rfl
theorem se_X10_moves : Cond.selects RX10 yX10_moves yX10_moves ∈ zW := zW_of 53 (by decide +kernel) rfl
theorem cd_X10_many : Cond.code yX10_many cX10_many 3 (some .int) ∈ zW := zW_of 1347 (by decide +kernel) rfl
theorem sm_X10_many : Cond.static yX10_many ∈ zW := zW_of 1346 (by decide +kernel) rfl
theorem cd_X10_isPassing : Cond.code yX10_isPassing cX10_isPassing 6 (some .boolean) ∈ zW := zW_of 1344 (by decide +kernel) rfl
theorem im_X10_isPassing : Cond.instanceMethod yX10_isPassing ∈ zW := zW_of 1343 (by decide +kernel) rfl
theorem se_X10_isPassing : Cond.selects RX10 yX10_isPassing yX10_isPassing ∈ zW := zW_of 54 (by decide +kernel) rfl
theorem cd_X10_votes : Cond.code yX10_votes cX10_votes 5 none ∈ zW := zW_of 1351 (by decide +kernel) rfl
theorem im_X10_votes : Cond.instanceMethod yX10_votes ∈ zW := zW_of 1350 (by decide +kernel) rfl
theorem se_X10_votes : Cond.selects RX10 yX10_votes yX10_votes ∈ zW := zW_of 55 (by decide +kernel) rfl
theorem cd_X10_papers : Cond.code yX10_papers cX10_papers 4 none ∈ zW := zW_of 1355 (by decide +kernel) rfl
theorem im_X10_papers : Cond.instanceMethod yX10_papers ∈ zW := zW_of 1354 (by decide +kernel) rfl
theorem se_X10_papers : Cond.selects RX10 yX10_papers yX10_papers ∈ zW := zW_of 56 (by decide +kernel) rfl
theorem cd_X10_goes : Cond.code yX10_goes cX10_goes 4 none ∈ zW := zW_of 1371 (by decide +kernel) rfl
theorem im_X10_goes : Cond.instanceMethod yX10_goes ∈ zW := zW_of 1370 (by decide +kernel) rfl
theorem se_X10_goes : Cond.selects RX10 yX10_goes yX10_goes ∈ zW := zW_of 60 (by decide +kernel) rfl
theorem cd_X10_adds : Cond.code yX10_adds cX10_adds 4 none ∈ zW := zW_of 1367 (by decide +kernel) rfl
theorem im_X10_adds : Cond.instanceMethod yX10_adds ∈ zW := zW_of 1366 (by decide +kernel) rfl
theorem se_X10_adds : Cond.selects RX10 yX10_adds yX10_adds ∈ zW := zW_of 59 (by decide +kernel) rfl
theorem cd_X10_amends : Cond.code yX10_amends cX10_amends 5 none ∈ zW := zW_of 1359 (by decide +kernel) rfl
theorem im_X10_amends : Cond.instanceMethod yX10_amends ∈ zW := zW_of 1358 (by decide +kernel) rfl
theorem se_X10_amends : Cond.selects RX10 yX10_amends yX10_amends ∈ zW := zW_of 57 (by decide +kernel) rfl
theorem cd_X10_behindGone : Cond.code yX10_behindGone cX10_behindGone 4 (some .int) ∈ zW := zW_of 1363 (by decide +kernel) rfl
theorem im_X10_behindGone : Cond.instanceMethod yX10_behindGone ∈ zW := zW_of 1362 (by decide +kernel) rfl
theorem se_X10_behindGone : Cond.selects RX10 yX10_behindGone yX10_behindGone ∈ zW := zW_of 58 (by decide +kernel) rfl
theorem cd_X10_works : Cond.code yX10_works cX10_works 5 none ∈ zW := zW_of 1280 (by decide +kernel) rfl
theorem im_X10_works : Cond.instanceMethod yX10_works ∈ zW := zW_of 1279 (by decide +kernel) rfl
theorem se_X10_works : Cond.selects RX10 yX10_works yX10_works ∈ zW := zW_of 38 (by decide +kernel) rfl
theorem cd_X10_act : Cond.code yX10_act cX10_act 6 (some .int) ∈ zW := zW_of 1276 (by decide +kernel) rfl
theorem im_X10_act : Cond.instanceMethod yX10_act ∈ zW := zW_of 1274 (by decide +kernel) rfl
theorem se_X10_act : Cond.selects RX10 yX10_act yX10_act ∈ zW := zW_of 1275 (by decide +kernel) rfl
theorem cd_X10_again : Cond.code yX10_again cX10_again 4 none ∈ zW := zW_of 1379 (by decide +kernel) rfl
theorem im_X10_again : Cond.instanceMethod yX10_again ∈ zW := zW_of 1378 (by decide +kernel) rfl
theorem se_X10_again : Cond.selects RX10 yX10_again yX10_again ∈ zW := zW_of 61 (by decide +kernel) rfl
theorem cd_X10_beside : Cond.code yX10_beside cX10_beside 4 (some .int) ∈ zW := zW_of 1375 (by decide +kernel) rfl
theorem im_X10_beside : Cond.instanceMethod yX10_beside ∈ zW := zW_of 1373 (by decide +kernel) rfl
theorem se_X10_beside : Cond.selects RX10 yX10_beside yX10_beside ∈ zW := zW_of 1374 (by decide +kernel) rfl
theorem cd_X10_ruling : Cond.code yX10_ruling cX10_ruling 2 (some .int) ∈ zW := zW_of 1387 (by decide +kernel) rfl
theorem im_X10_ruling : Cond.instanceMethod yX10_ruling ∈ zW := zW_of 1385 (by decide +kernel) rfl
theorem se_X10_ruling : Cond.selects RX10 yX10_ruling yX10_ruling ∈ zW := zW_of 1386 (by decide +kernel) rfl
theorem cd_X10_passed : Cond.code yX10_passed cX10_passed 2 (some .int) ∈ zW := zW_of 1391 (by decide +kernel) rfl
theorem im_X10_passed : Cond.instanceMethod yX10_passed ∈ zW := zW_of 1389 (by decide +kernel) rfl
theorem se_X10_passed : Cond.selects RX10 yX10_passed yX10_passed ∈ zW := zW_of 1390 (by decide +kernel) rfl
theorem cd_X10_state : Cond.code yX10_state cX10_state 2 (some .int) ∈ zW := zW_of 1383 (by decide +kernel) rfl
theorem im_X10_state : Cond.instanceMethod yX10_state ∈ zW := zW_of 1381 (by decide +kernel) rfl
theorem se_X10_state : Cond.selects RX10 yX10_state yX10_state ∈ zW := zW_of 1382 (by decide +kernel) rfl
theorem cd_X10_pending : Cond.code yX10_pending cX10_pending 3 (some .int) ∈ zW := zW_of 1396 (by decide +kernel) rfl
theorem im_X10_pending : Cond.instanceMethod yX10_pending ∈ zW := zW_of 1394 (by decide +kernel) rfl
theorem se_X10_pending : Cond.selects RX10 yX10_pending yX10_pending ∈ zW := zW_of 1395 (by decide +kernel) rfl
theorem cd_X10_clause_ : Cond.code yX10_clause_ cX10_clause_ 3 (some .int) ∈ zW := zW_of 1400 (by decide +kernel) rfl
theorem im_X10_clause_ : Cond.instanceMethod yX10_clause_ ∈ zW := zW_of 1398 (by decide +kernel) rfl
theorem se_X10_clause_ : Cond.selects RX10 yX10_clause_ yX10_clause_ ∈ zW := zW_of 1399 (by decide +kernel) rfl
theorem cd_X10_place : Cond.code yX10_place cX10_place 2 (some .int) ∈ zW := zW_of 1404 (by decide +kernel) rfl
theorem im_X10_place : Cond.instanceMethod yX10_place ∈ zW := zW_of 1402 (by decide +kernel) rfl
theorem se_X10_place : Cond.selects RX10 yX10_place yX10_place ∈ zW := zW_of 1403 (by decide +kernel) rfl
theorem cd_X10_speeches : Cond.code yX10_speeches cX10_speeches 2 (some .int) ∈ zW := zW_of 1408 (by decide +kernel) rfl
theorem im_X10_speeches : Cond.instanceMethod yX10_speeches ∈ zW := zW_of 1406 (by decide +kernel) rfl
theorem se_X10_speeches : Cond.selects RX10 yX10_speeches yX10_speeches ∈ zW := zW_of 1407 (by decide +kernel) rfl
theorem cd_X10_waits : Cond.code yX10_waits cX10_waits 7 (some .int) ∈ zW := zW_of 1412 (by decide +kernel) rfl
theorem im_X10_waits : Cond.instanceMethod yX10_waits ∈ zW := zW_of 1410 (by decide +kernel) rfl
theorem se_X10_waits : Cond.selects RX10 yX10_waits yX10_waits ∈ zW := zW_of 1411 (by decide +kernel) rfl
theorem cd_X10_overturned : Cond.code yX10_overturned cX10_overturned 2 (some .int) ∈ zW := zW_of 1416 (by decide +kernel) rfl
theorem im_X10_overturned : Cond.instanceMethod yX10_overturned ∈ zW := zW_of 1414 (by decide +kernel) rfl
theorem se_X10_overturned : Cond.selects RX10 yX10_overturned yX10_overturned ∈ zW := zW_of 1415 (by decide +kernel) rfl
theorem cd_X10_score : Cond.code yX10_score cX10_score 5 (some .boolean) ∈ zW := zW_of 1420 (by decide +kernel) rfl
theorem im_X10_score : Cond.instanceMethod yX10_score ∈ zW := zW_of 1418 (by decide +kernel) rfl
theorem se_X10_score : Cond.selects RX10 yX10_score yX10_score ∈ zW := zW_of 1419 (by decide +kernel) rfl
theorem cd_X10_counts : Cond.code yX10_counts cX10_counts 3 (some .boolean) ∈ zW := zW_of 1428 (by decide +kernel) rfl
theorem im_X10_counts : Cond.instanceMethod yX10_counts ∈ zW := zW_of 1427 (by decide +kernel) rfl
theorem se_X10_counts : Cond.selects RX10 yX10_counts yX10_counts ∈ zW := zW_of 62 (by decide +kernel) rfl
theorem cd_X10_scaled : Cond.code yX10_scaled cX10_scaled 6 (some .int) ∈ zW := zW_of 1432 (by decide +kernel) rfl
theorem im_X10_scaled : Cond.instanceMethod yX10_scaled ∈ zW := zW_of 1431 (by decide +kernel) rfl
theorem se_X10_scaled : Cond.selects RX10 yX10_scaled yX10_scaled ∈ zW := zW_of 63 (by decide +kernel) rfl
theorem cd_X10_mean : Cond.code yX10_mean cX10_mean 5 (some .int) ∈ zW := zW_of 1424 (by decide +kernel) rfl
theorem im_X10_mean : Cond.instanceMethod yX10_mean ∈ zW := zW_of 1422 (by decide +kernel) rfl
theorem se_X10_mean : Cond.selects RX10 yX10_mean yX10_mean ∈ zW := zW_of 1423 (by decide +kernel) rfl
theorem cd_X10_award : Cond.code yX10_award cX10_award 5 (some .int) ∈ zW := zW_of 1436 (by decide +kernel) rfl
theorem im_X10_award : Cond.instanceMethod yX10_award ∈ zW := zW_of 1434 (by decide +kernel) rfl
theorem se_X10_award : Cond.selects RX10 yX10_award yX10_award ∈ zW := zW_of 1435 (by decide +kernel) rfl
theorem cd_X10_told : Cond.code yX10_told cX10_told 2 (some .int) ∈ zW := zW_of 1441 (by decide +kernel) rfl
theorem im_X10_told : Cond.instanceMethod yX10_told ∈ zW := zW_of 1439 (by decide +kernel) rfl
theorem se_X10_told : Cond.selects RX10 yX10_told yX10_told ∈ zW := zW_of 1440 (by decide +kernel) rfl
theorem cd_J6_bitCount_0f7a4 : Cond.code yJ6_bitCount_0f7a4 cJ6_bitCount_0f7a4 1 (some .int) ∈ zW := zW_of 666 (by decide +kernel) rfl
theorem sm_J6_bitCount_0f7a4 : Cond.static yJ6_bitCount_0f7a4 ∈ zW := zW_of 665 (by decide +kernel) rfl
theorem cd_J9_max_7cf53 : Cond.code yJ9_max_7cf53 cJ9_max_7cf53 2 (some .int) ∈ zW := zW_of 791 (by decide +kernel) rfl
theorem sm_J9_max_7cf53 : Cond.static yJ9_max_7cf53 ∈ zW := zW_of 790 (by decide +kernel) rfl
theorem cd_J9_min_7cf53 : Cond.code yJ9_min_7cf53 cJ9_min_7cf53 2 (some .int) ∈ zW := zW_of 959 (by decide +kernel) rfl
theorem sm_J9_min_7cf53 : Cond.static yJ9_min_7cf53 ∈ zW := zW_of 958 (by decide +kernel) rfl
theorem cd_J0_length_8abf5 : Cond.code yJ0_length_8abf5 cJ0_length_8abf5 1 (some .int) ∈ zW := zW_of 491 (by decide +kernel) rfl
theorem im_J0_length_8abf5 : Cond.instanceMethod yJ0_length_8abf5 ∈ zW := zW_of 489 (by decide +kernel) rfl
theorem se_J0_length_8abf5 : Cond.selects RJ0 yJ0_length_8abf5 yJ0_length_8abf5 ∈ zW := zW_of 490 (by decide +kernel) rfl
theorem cd_J0_charAt_5068e : Cond.code yJ0_charAt_5068e cJ0_charAt_5068e 2 (some .char) ∈ zW := zW_of 501 (by decide +kernel) rfl
theorem im_J0_charAt_5068e : Cond.instanceMethod yJ0_charAt_5068e ∈ zW := zW_of 499 (by decide +kernel) rfl
theorem se_J0_charAt_5068e : Cond.selects RJ0 yJ0_charAt_5068e yJ0_charAt_5068e ∈ zW := zW_of 500 (by decide +kernel) rfl
theorem cd_J0_coder_7d493 : Cond.code yJ0_coder_7d493 cJ0_coder_7d493 1 (some .byte) ∈ zW := zW_of 495 (by decide +kernel) rfl
theorem im_J0_coder_7d493 : Cond.instanceMethod yJ0_coder_7d493 ∈ zW := zW_of 493 (by decide +kernel) rfl
theorem se_J0_coder_7d493 : Cond.selects RJ0 yJ0_coder_7d493 yJ0_coder_7d493 ∈ zW := zW_of 494 (by decide +kernel) rfl
theorem cd_J0_isLatin1_aae02 : Cond.code yJ0_isLatin1_aae02 cJ0_isLatin1_aae02 1 (some .boolean) ∈ zW := zW_of 505 (by decide +kernel) rfl
theorem im_J0_isLatin1_aae02 : Cond.instanceMethod yJ0_isLatin1_aae02 ∈ zW := zW_of 503 (by decide +kernel) rfl
theorem se_J0_isLatin1_aae02 : Cond.selects RJ0 yJ0_isLatin1_aae02 yJ0_isLatin1_aae02 ∈ zW := zW_of 504 (by decide +kernel) rfl
theorem cd_J0_checkIndex_df160 : Cond.code yJ0_checkIndex_df160 cJ0_checkIndex_df160 2 none ∈ zW := zW_of 511 (by decide +kernel) rfl
theorem sm_J0_checkIndex_df160 : Cond.static yJ0_checkIndex_df160 ∈ zW := zW_of 510 (by decide +kernel) rfl
theorem cd_J1_charAt_3b067 : Cond.code yJ1_charAt_3b067 cJ1_charAt_3b067 2 (some .char) ∈ zW := zW_of 508 (by decide +kernel) rfl
theorem sm_J1_charAt_3b067 : Cond.static yJ1_charAt_3b067 ∈ zW := zW_of 507 (by decide +kernel) rfl
theorem cd_J2_getChar_3b067 : Cond.code yJ2_getChar_3b067 cJ2_getChar_3b067 2 (some .char) ∈ zW := zW_of 529 (by decide +kernel) rfl
theorem sm_J2_getChar_3b067 : Cond.static yJ2_getChar_3b067 ∈ zW := zW_of 528 (by decide +kernel) rfl
theorem cd_J2_length_9d52b : Cond.code yJ2_length_9d52b cJ2_length_9d52b 1 (some .int) ∈ zW := zW_of 525 (by decide +kernel) rfl
theorem sm_J2_length_9d52b : Cond.static yJ2_length_9d52b ∈ zW := zW_of 524 (by decide +kernel) rfl
theorem cd_J2_charAt_3b067 : Cond.code yJ2_charAt_3b067 cJ2_charAt_3b067 2 (some .char) ∈ zW := zW_of 519 (by decide +kernel) rfl
theorem sm_J2_charAt_3b067 : Cond.static yJ2_charAt_3b067 ∈ zW := zW_of 518 (by decide +kernel) rfl
theorem cd_J2_checkIndex_2214a : Cond.code yJ2_checkIndex_2214a cJ2_checkIndex_2214a 2 none ∈ zW := zW_of 522 (by decide +kernel) rfl
theorem sm_J2_checkIndex_2214a : Cond.static yJ2_checkIndex_2214a ∈ zW := zW_of 521 (by decide +kernel) rfl
theorem cd_J3_checkIndex_8e157 : Cond.code yJ3_checkIndex_8e157 cJ3_checkIndex_8e157 3 (some .int) ∈ zW := zW_of 516 (by decide +kernel) rfl
theorem sm_J3_checkIndex_8e157 : Cond.static yJ3_checkIndex_8e157 ∈ zW := zW_of 515 (by decide +kernel) rfl
end
section
/-! the text constants: one for each place of a constant pool -/
abbrev zNS : Nat := 50
def zSl : List Nat := [6, 4, 5, 5, 5, 5, 6, 7, 6, 4, 6, 6, 4, 4, 6, 7, 5, 4, 6, 5, 7, 7, 6, 3, 2, 6, 4, 5, 5, 5, 5, 6, 7, 6, 4, 6, 6, 4, 4, 6, 7, 5, 4, 6, 5, 6, 7, 7, 3, 2]
def zSb : List (List Int32) := [[109, 111, 116, 105, 111, 110], [109, 97, 105, 110], [97, 109, 101, 110, 100], [99, 108, 111, 115, 101], [108, 105, 109, 105, 116], [116, 97, 98, 108, 101], [114, 101, 99, 101, 115, 115], [97, 100, 106, 111, 117, 114, 110], [97, 112, 112, 101, 97, 108], [114, 97, 110, 107], [115, 101, 99, 111, 110, 100], [100, 101, 98, 97, 116, 101], [112, 97, 115, 115], [104, 97, 108, 102], [116, 104, 105, 114, 100, 115], [113, 117, 97, 114, 116, 101, 114], [99, 104, 97, 105, 114], [116, 105, 109, 101], [113, 117, 111, 114, 117, 109], [116, 117, 114, 110, 115], [115, 99, 104, 111, 111, 108, 115], [109, 101, 109, 98, 101, 114, 115], [121, 105, 101, 108, 100, 115], [121, 101, 115], [110, 111], [109, 111, 116, 105, 111, 110], [109, 97, 105, 110], [97, 109, 101, 110, 100], [99, 108, 111, 115, 101], [108, 105, 109, 105, 116], [116, 97, 98, 108, 101], [114, 101, 99, 101, 115, 115], [97, 100, 106, 111, 117, 114, 110], [97, 112, 112, 101, 97, 108], [114, 97, 110, 107], [115, 101, 99, 111, 110, 100], [100, 101, 98, 97, 116, 101], [112, 97, 115, 115], [104, 97, 108, 102], [116, 104, 105, 114, 100, 115], [113, 117, 97, 114, 116, 101, 114], [99, 104, 97, 105, 114], [116, 105, 109, 101], [113, 117, 111, 114, 117, 109], [116, 117, 114, 110, 115], [121, 105, 101, 108, 100, 115], [115, 99, 104, 111, 111, 108, 115], [109, 101, 109, 98, 101, 114, 115], [121, 101, 115], [110, 111]]
def zSt : List (String × Nat × String × Nat) := [(RX5, 48, "motion", 0), (RX5, 163, "main", 1), (RX5, 165, "amend", 2), (RX5, 167, "close", 3), (RX5, 169, "limit", 4), (RX5, 171, "table", 5), (RX5, 173, "recess", 6), (RX5, 175, "adjourn", 7), (RX5, 177, "appeal", 8), (RX5, 110, "rank", 9), (RX5, 123, "second", 10), (RX5, 128, "debate", 11), (RX5, 130, "pass", 12), (RX5, 179, "half", 13), (RX5, 181, "thirds", 14), (RX5, 183, "quarter", 15), (RX5, 185, "chair", 16), (RX5, 57, "time", 17), (RX5, 69, "quorum", 18), (RX5, 73, "turns", 19), (RX5, 75, "schools", 20), (RX5, 77, "members", 21), (RX5, 87, "yields", 22), (RX5, 89, "yes", 23), (RX5, 91, "no", 24), (RX10, 244, "motion", 25), (RX10, 188, "main", 26), (RX10, 190, "amend", 27), (RX10, 192, "close", 28), (RX10, 194, "limit", 29), (RX10, 196, "table", 30), (RX10, 198, "recess", 31), (RX10, 200, "adjourn", 32), (RX10, 202, "appeal", 33), (RX10, 228, "rank", 34), (RX10, 236, "second", 35), (RX10, 237, "debate", 36), (RX10, 239, "pass", 37), (RX10, 204, "half", 38), (RX10, 206, "thirds", 39), (RX10, 208, "quarter", 40), (RX10, 210, "chair", 41), (RX10, 212, "time", 42), (RX10, 213, "quorum", 43), (RX10, 214, "turns", 44), (RX10, 216, "yields", 45), (RX10, 251, "schools", 46), (RX10, 253, "members", 47), (RX10, 255, "yes", 48), (RX10, 257, "no", 49)]
end
section
/-! ===== the cells: kinds and lengths (0 to 10 an object of that class and its number of fields; 11 bytes, 12 ints, 13 booleans; 14.. rows of rows) ===== -/
def zKt : List (Nat × Nat) := [(9, 10), (8, 2), (11, 600), (6, 8), (12, 8), (12, 8), (13, 8), (13, 8), (6, 8), (12, 8), (12, 8), (13, 8), (13, 8), (5, 5), (12, 24), (2, 6), (12, 300), (12, 300), (12, 300), (12, 300), (12, 300), (7, 16), (0, 8), (12, 24), (12, 24), (3, 9), (12, 8), (12, 8), (12, 8), (12, 8), (12, 8), (13, 8), (13, 8), (4, 6), (12, 320), (12, 320), (12, 320), (12, 300), (12, 300), (13, 300), (13, 300), (7, 16), (0, 8), (12, 24), (12, 24), (3, 9), (12, 8), (12, 8), (12, 8), (12, 8), (12, 8), (13, 8), (13, 8), (4, 6), (12, 320), (12, 320), (12, 320), (12, 300), (12, 300), (13, 300), (13, 300), (0, 8), (12, 24), (12, 24), (1, 4), (12, 6), (19, 6), (12, 24), (12, 24), (12, 24), (12, 24), (12, 24), (12, 24), (12, 24), (10, 61), (11, 600), (13, 12), (14, 2), (12, 8), (12, 8), (14, 2), (12, 8), (12, 8), (15, 2), (13, 8), (13, 8), (15, 2), (13, 8), (13, 8), (12, 2), (12, 2), (13, 2), (13, 2), (12, 24), (12, 300), (12, 300), (12, 300), (12, 300), (12, 300), (16, 2), (12, 300), (12, 300), (16, 2), (12, 300), (12, 300), (17, 2), (13, 300), (13, 300), (13, 24), (12, 24), (12, 24), (12, 12), (12, 12), (12, 12), (12, 12), (12, 12), (13, 12), (13, 12), (13, 300), (12, 60), (12, 60), (12, 400), (12, 24), (12, 24), (12, 6), (19, 6), (12, 24), (12, 24), (12, 24), (12, 24), (12, 24), (12, 24), (20, 6), (13, 24), (13, 24), (13, 24), (13, 24), (13, 24), (13, 24), (13, 24), (18, 400)]
abbrev zNB : Nat := 141
abbrev zNC : Nat := 541
def zKd0 (c : Nat) : Nat × Nat := if c < zNB then zKt.getD c (99, 0) else if c < zNC then (12, 60) else (99, 0)
def zRt : List (List Nat) := [[1, 3, 8, 13, 14, 15, 21, 41, 61, 64], [2, 0], [], [4, 5, 6, 7, 0, 0, 0, 0], [], [], [], [], [9, 10, 11, 12, 0, 0, 0, 0], [], [], [], [], [1, 8, 0, 0, 0], [], [16, 17, 18, 19, 20, 0], [], [], [], [], [], [3, 15, 22, 25, 33, 37, 38, 39, 40, 0, 0, 0, 0, 0, 0, 0], [3, 14, 23, 24, 0, 0, 0, 0], [], [], [3, 26, 27, 28, 29, 30, 31, 32, 0], [], [], [], [], [], [], [], [34, 35, 36, 0, 0, 0], [], [], [], [], [], [], [], [3, 15, 42, 45, 53, 57, 58, 59, 60, 0, 0, 0, 0, 0, 0, 0], [3, 14, 43, 44, 0, 0, 0, 0], [], [], [3, 46, 47, 48, 49, 50, 51, 52, 0], [], [], [], [], [], [], [], [54, 55, 56, 0, 0, 0], [], [], [], [], [], [], [], [3, 14, 62, 63, 0, 0, 0, 0], [], [], [14, 65, 66, 73], [], [67, 68, 69, 70, 71, 72], [], [], [], [], [], [], [], [0, 75, 0, 0, 0, 0, 76, 77, 80, 83, 86, 89, 90, 91, 92, 93, 0, 94, 95, 96, 97, 98, 99, 102, 105, 0, 0, 0, 108, 109, 110, 0, 0, 0, 0, 0, 0, 0, 0, 0, 111, 112, 113, 114, 115, 116, 117, 118, 0, 0, 0, 119, 120, 121, 140, 122, 123, 124, 125, 132, 139], [], [], [78, 79], [], [], [81, 82], [], [], [84, 85], [], [], [87, 88], [], [], [], [], [], [], [], [], [], [], [], [], [100, 101], [], [], [103, 104], [], [], [106, 107], [], [], [], [], [], [], [], [], [], [], [], [], [], [], [], [], [], [], [], [126, 127, 128, 129, 130, 131], [], [], [], [], [], [], [133, 134, 135, 136, 137, 138], [], [], [], [], [], [], [], []]
def zRf (c i : Nat) : Nat := if c = 140 then zNB + i else (zRt.getD c []).getD i 0
def zFt : List (List Bool) := [[true, true, true, true, false, false, false, false], [true, true, true, true], [true, true, true, true, true, false], [true, true, true, true, true, true, true, true, false], [true, true, true, false, false, false], [true, true, false, false, false], [true, true, true, true, false, false, false, false], [true, true, true, true, true, true, true, true, true, false, false, false, false, false, false, false], [true, false], [true, true, true, true, true, true, true, true, true, true], [false, true, false, false, false, false, true, true, true, true, true, true, true, true, true, true, false, true, true, true, true, true, true, true, true, false, false, false, true, true, true, false, false, false, false, false, false, false, false, false, true, true, true, true, true, true, true, true, false, false, false, true, true, true, true, true, true, true, true, true, true]]
def zFr (k i : Nat) : Bool := (zFt.getD k []).getD i false
def zAk (k : Nat) : Nat := if k = 15 ∨ k = 17 ∨ k = 20 then 15 else 14
theorem zKd0_lt {c k n : Nat} (h : zKd0 c = (k, n)) (hk : k < 21) : c < zNC := by
  rcases Nat.lt_or_ge c zNC with q | q
  · exact q
  · have h2 : ¬ c < zNB := by simp only [zNB, zNC] at *; omega
    rw [zKd0, if_neg h2, if_neg (by omega)] at h
    have := congrArg Prod.fst h
    simp only at this
    omega
theorem zKd0_nb {c k n : Nat} (h : zKd0 c = (k, n)) (hk : k < 12 ∨ 12 < k ∨ n ≠ 60) (hk2 : k < 21) : c < zNB := by
  rcases Nat.lt_or_ge c zNB with q | q
  · exact q
  · have h1 := zKd0_lt h hk2
    rw [zKd0, if_neg (by omega), if_pos h1] at h
    have a1 := congrArg Prod.fst h
    have a2 := congrArg Prod.snd h
    simp only at a1 a2
    omega
end
section
/-! ===== the memory of the system: cells by number, ints by place; trees: what a method answers and leaves ===== -/
abbrev zMem : Type := Nat → Nat → Int32
abbrev zTr : Type := Option (Int32 × zMem)
def zUp (M : zMem) (c i : Nat) (v : Int32) : zMem := fun a b => if a = c ∧ b = i then v else M a b
def zLt (x : zMem) (f : zMem → zTr) : zTr := f x
def zCk (c : Prop) [Decidable c] (t : zTr) : zTr := if c then t else none
def zBd (t : zTr) (f : Int32 → zMem → zTr) : zTr := match t with
  | none => none
  | some q => f q.1 q.2
abbrev zIn (i : Int32) (n : Nat) : Prop := 0 ≤ i.toInt ∧ i.toInt < (n : Int)
abbrev zIx (i : Int32) : Nat := i.toNatClampNeg
/-- a switch: the first case that fits -/
def zSw (x : Int32) (d : zTr) : List (Int32 × zTr) → zTr
  | [] => d
  | q :: l => if x = q.1 then q.2 else zSw x d l
theorem zUp_row (M : zMem) (c i : Nat) (v : Int32) : zUp M c i v c = upd (M c) i v := by
  funext b
  by_cases h : b = i
  · subst h
    simp [zUp, upd]
  · simp [zUp, upd, h]
theorem zUp_off {M : zMem} {c i : Nat} {v : Int32} {a : Nat} (h : a ≠ c) : zUp M c i v a = M a := by
  funext b
  simp [zUp, h]
/-- what is fixed of a world: classes and slots; array classes; the cells' addresses; the text constants' addresses, and their bytes'; which cells are there -/
abbrev zWD : Type := va_G × (Nat → ClassId) × (Nat → Nat) × (Nat → Nat) × (Nat → Nat) × (Nat → Bool)
abbrev zG (w : zWD) : va_G := w.1
abbrev zC (w : zWD) : Nat → ClassId := w.2.1
abbrev zA (w : zWD) : Nat → Nat := w.2.2.1
abbrev zK (w : zWD) : Nat → Nat := w.2.2.2.1
abbrev zV (w : zWD) : Nat → Nat := w.2.2.2.2.1
abbrev zL (w : zWD) : Nat → Bool := w.2.2.2.2.2
def zFree (w : zWD) : Nat → Prop := fun q => ∃ c, c < zNC ∧ zL w c = true ∧ q = zA w c
def zKd (w : zWD) (c : Nat) : Nat × Nat := if zL w c = true then zKd0 c else (99, 0)
theorem zKd_live {w : zWD} {c k n : Nat} (h : zKd w c = (k, n)) (hk : k < 21) : zL w c = true ∧ zKd0 c = (k, n) := by
  by_cases hl : zL w c = true
  · rw [zKd, if_pos hl] at h; exact ⟨hl, h⟩
  · rw [zKd, if_neg hl] at h
    have := congrArg Prod.fst h
    simp only at this
    omega
theorem zKd_of {w : zWD} {c k n : Nat} (hl : zL w c = true) (h : zKd0 c = (k, n)) : zKd w c = (k, n) := by rw [zKd, if_pos hl]; exact h
theorem zKd_lt {w : zWD} {c k n : Nat} (h : zKd w c = (k, n)) (hk : k < 21) : c < zNC := zKd0_lt (zKd_live h hk).2 hk
/-- what is there is there with all that it names -/
def zClo (w : zWD) : Prop := ∀ c i : Nat, zL w c = true → ((zKd0 c).1 < 11 ∧ i < (zKd0 c).2 ∧ zFr (zKd0 c).1 i = true ∨ 14 ≤ (zKd0 c).1 ∧ (zKd0 c).1 < 21 ∧ i < (zKd0 c).2) → zL w (zRf c i) = true
theorem zQ {w : zWD} (K : zClo w) {o ci N k q kk nn : Nat} (h : zKd w o = (ci, N)) (hci : ci < 11) (hk : k < N) (hf : zFr ci k = true) (hr : zRf o k = q) (hq : zKd0 q = (kk, nn)) : zKd w q = (kk, nn) := by
  obtain ⟨h1, h2⟩ := zKd_live h (by omega)
  refine zKd_of ?_ hq
  rw [← hr]
  exact K o k h1 (Or.inl (by rw [h2]; exact ⟨hci, hk, hf⟩))
theorem zQr {w : zWD} (K : zClo w) {o ci N k q kk nn : Nat} (h : zKd w o = (ci, N)) (hci : 14 ≤ ci ∧ ci < 21) (hk : k < N) (hr : zRf o k = q) (hq : zKd0 q = (kk, nn)) : zKd w q = (kk, nn) := by
  obtain ⟨h1, h2⟩ := zKd_live h hci.2
  refine zKd_of ?_ hq
  rw [← hr]
  exact K o k h1 (Or.inr (by rw [h2]; exact ⟨hci.1, hci.2, hk⟩))
def zFv (w : zWD) (M : zMem) (k c i : Nat) : Value := if zFr k i = true then .ref (zA w (zRf c i)) else .int (M c i)
def zEn (w : zWD) (M : zMem) (c : Nat) : va_E :=
  if (zKd0 c).1 < 11 then .inr ((zKd0 c).1, (List.range (zKd0 c).2).map (fun i => zFv w M (zKd0 c).1 c i))
  else if (zKd0 c).1 < 14 then .inl (zC w (zKd0 c).1, (zKd0 c).2, .inl (M c))
  else .inl (zC w (zAk (zKd0 c).1), (zKd0 c).2, .inr (.inr (.inr (.inr (fun i => some (zA w (zRf c i)))))))
def zLi (w : zWD) : List Nat := (List.range zNC).filter (fun c => zL w c)
def zWl (w : zWD) (M : zMem) : va_W := (zLi w).map (fun c => (zA w c, zEn w M c))
theorem zLi_mem {w : zWD} {c : Nat} (h : c < zNC) (hl : zL w c = true) : ∃ k : Nat, (zLi w)[k]? = some c := List.getElem?_of_mem (List.mem_filter.mpr ⟨List.mem_range.mpr h, hl⟩)
theorem zLi_inj {w : zWD} {i j c : Nat} (h1 : (zLi w)[i]? = some c) (h2 : (zLi w)[j]? = some c) : i = j := by
  have hn : (zLi w).Nodup := List.nodup_range.filter _
  exact (List.getElem?_inj (List.getElem?_eq_some_iff.mp h1).1 hn).mp (h1.trans h2.symm)
theorem zWl_get (w : zWD) (M : zMem) {k c : Nat} (h : (zLi w)[k]? = some c) : (zWl w M)[k]? = some (zA w c, zEn w M c) := by
  rw [zWl, List.getElem?_map, h]; rfl
theorem zWl_set (w : zWD) (M M' : zMem) {k c : Nat} (h : (zLi w)[k]? = some c) {x : va_E} (hx : zEn w M' c = x) (ho : ∀ b, b ≠ c → M' b = M b) : (zWl w M).set k (zA w c, x) = zWl w M' := by
  apply List.ext_getElem?
  intro j
  by_cases hj : j = k
  · subst hj
    rw [List.getElem?_set_self (by rw [zWl, List.length_map]; exact (List.getElem?_eq_some_iff.mp h).1), zWl_get w M' h, hx]
  · rw [List.getElem?_set_ne (Ne.symm hj), zWl, zWl, List.getElem?_map, List.getElem?_map]
    cases hc : (zLi w)[j]? with
    | none => rfl
    | some b =>
      have hb : b ≠ c := fun q => hj (zLi_inj (by rw [hc, q]) h)
      have : zEn w M' b = zEn w M b := by simp only [zEn, zFv, ho b hb]
      simp only [Option.map_some, this]
def zRep (w : zWD) (M : zMem) (H : Heap) : Prop := va_P (zG w) vwCl (zWl w M) H
abbrev zTys (w : zWD) : List (ClassId × FieldType) := [(zC w 11, .byte), (zC w 12, .int), (zC w 13, .boolean), (zC w 14, .array .int), (zC w 15, .array .boolean)]
/-- the text constants -/
def zSx (w : zWD) (A : Nat → Prop) (U : State) (H : Heap) : Prop := ∀ i : Nat, i < zNS → va_O "java/lang/String" (zK w i) A U H ∧ va_OF "java/lang/String" "coder" "B" (.int 0) (zK w i) A U H ∧ va_OF "java/lang/String" "value" "[B" (.ref (zV w i)) (zK w i) A U H ∧ va_T .byte (zV w i) (zSl.getD i 0) (fun j => .int ((zSb.getD i []).getD j 0)) A U H
theorem zSx.moved {w : zWD} {A : Nat → Prop} {u U : State} {H : Heap} (hvm : u.vm.Alike U.vm) (h : zSx w A u H) : zSx w A U H := fun i hi => ⟨va_O.moved hvm (h i hi).1, va_OF.moved hvm (h i hi).2.1, va_OF.moved hvm (h i hi).2.2.1, va_T.moved hvm (h i hi).2.2.2⟩
theorem zSx.kept {w : zWD} {A : Nat → Prop} {U : State} {H H1 : Heap} (h : zSx w A U H) (hq : ∀ a : Nat, a < H.size → ¬ A a → H1[a]? = H[a]?) : zSx w A U H1 := fun i hi => ⟨(h i hi).1.kept hq, (h i hi).2.1.kept hq, (h i hi).2.2.1.kept hq, (h i hi).2.2.2.kept hq⟩
theorem zSx.narrow {w : zWD} {A B : Nat → Prop} {U : State} {H : Heap} (h : zSx w A U H) (hAB : ∀ q, B q → A q) : zSx w B U H := fun i hi => ⟨(h i hi).1.narrow hAB, (h i hi).2.1.narrow hAB, (h i hi).2.2.1.narrow hAB, (h i hi).2.2.2.narrow hAB⟩
def zKK (w : zWD) (A : Nat → Prop) (U : State) (H : Heap) : Prop :=
  va_K (zG w) vwCl (zTys w) U ∧ (∀ c c', c < zNC → c' < zNC → zL w c = true → zL w c' = true → zA w c = zA w c' → c = c') ∧ zClo w ∧
  zSx w A U H ∧ va_Z "java/lang/String" "COMPACT_STRINGS" "Z" (.int 1) A U H ∧ va_Zq "jdk/internal/util/Preconditions" "SIOOBE_FORMATTER" "Ljava/util/function/BiFunction;" A U H ∧ (∀ q ∈ zSt, vk_R q.1 q.2.1 q.2.2.1 (zK w q.2.2.2) U) ∧ ∀ q ∈ zNw, va_Nw (.methodLinkNest q.1 q.2.1 q.2.2.1 q.2.2.2) U
theorem zKK.K {w : zWD} {A : Nat → Prop} {U : State} {H : Heap} (h : zKK w A U H) : va_K (zG w) vwCl (zTys w) U := h.1
theorem zKK.sx {w : zWD} {A : Nat → Prop} {U : State} {H : Heap} (h : zKK w A U H) : zSx w A U H := h.2.2.2.1
theorem zKK.cs {w : zWD} {A : Nat → Prop} {U : State} {H : Heap} (h : zKK w A U H) : va_Z "java/lang/String" "COMPACT_STRINGS" "Z" (.int 1) A U H := h.2.2.2.2.1
theorem zKK.fm {w : zWD} {A : Nat → Prop} {U : State} {H : Heap} (h : zKK w A U H) : va_Zq "jdk/internal/util/Preconditions" "SIOOBE_FORMATTER" "Ljava/util/function/BiFunction;" A U H := h.2.2.2.2.2.1
theorem zKK.st {w : zWD} {A : Nat → Prop} {U : State} {H : Heap} (h : zKK w A U H) : ∀ q ∈ zSt, vk_R q.1 q.2.1 q.2.2.1 (zK w q.2.2.2) U := h.2.2.2.2.2.2.1
theorem zKK.nw {w : zWD} {A : Nat → Prop} {U : State} {H : Heap} (h : zKK w A U H) : ∀ q ∈ zNw, va_Nw (.methodLinkNest q.1 q.2.1 q.2.2.1 q.2.2.2) U := h.2.2.2.2.2.2.2
theorem zKK.D {w : zWD} {A : Nat → Prop} {U : State} {H : Heap} (h : zKK w A U H) (hA : ∀ q, zFree w q → A q) (M : zMem) : va_D A (zWl w M) := by
  have key : ∀ (k : Nat) (q : Nat × va_E), (zWl w M)[k]? = some q → ∃ c, (zLi w)[k]? = some c ∧ q.1 = zA w c ∧ c < zNC ∧ zL w c = true := by
    intro k q hk
    rw [zWl, List.getElem?_map] at hk
    cases hc : (zLi w)[k]? with
    | none => rw [hc] at hk; cases hk
    | some c =>
      rw [hc] at hk
      cases hk
      have := List.mem_filter.mp (List.mem_of_getElem? hc)
      exact ⟨c, rfl, rfl, List.mem_range.mp this.1, this.2⟩
  refine ⟨fun i j a b hi hj hab => ?_, fun k q hk => ?_⟩
  · obtain ⟨c1, h1, h2, h3, h4⟩ := key i a hi
    obtain ⟨c2, g1, g2, g3, g4⟩ := key j b hj
    have e := h.2.1 c1 c2 h3 g3 h4 g4 (by rw [← h2, ← g2]; exact hab)
    subst e
    exact zLi_inj h1 g1
  · obtain ⟨c1, h1, h2, h3, h4⟩ := key k q hk
    exact hA _ ⟨c1, h3, h4, h2⟩
theorem zKK.same {w : zWD} {A : Nat → Prop} {u U : State} (hv : U.vm = u.vm) (hh : U.heap = u.heap) (h : zKK w A u u.heap) : zKK w A U U.heap := by
  obtain ⟨h1, h2, h8, h3, h4, h7, h5, h6⟩ := h
  have hal : u.vm.Alike U.vm := by rw [hv]; exact Vm.Alike.refl _
  rw [hh]
  exact ⟨va_K.moved hal h1, h2, h8, h3.moved hal, h4.moved hal, h7.moved hal, fun q hq => (h5 q hq).same hv, fun q hq => va_Nw.same rfl hv.symm (h6 q hq)⟩
theorem zKK.go {w : zWD} {A : Nat → Prop} {s U : State} {H : Heap} {locs : List Loc} (hW : s.WarmedH U.vm) (hS : va_S A s.heap H locs) (hU : U.heap = H) (h : zKK w A s s.heap) : zKK w A U U.heap := by
  obtain ⟨h1, h2, h8, h3, h4, h7, h5, h6⟩ := h
  rw [hU]
  have hal := hW.alike
  exact ⟨va_K.moved hal h1, h2, h8, (h3.moved hal).kept (fun a q1 q2 => hS.2.1 a q1 q2), (h4.moved hal).kept (fun a q1 q2 => hS.2.1 a q1 q2), (h7.moved hal).kept (fun a q1 q2 => hS.2.1 a q1 q2), fun q hq => (h5 q hq).warm hW, fun q hq => va_Nw.warmM hW (h6 q hq)⟩
theorem zKK.narrow {w : zWD} {A B : Nat → Prop} {U : State} {H : Heap} (h : zKK w A U H) (hAB : ∀ q, B q → A q) : zKK w B U H := by
  obtain ⟨h1, h2, h8, h3, h4, h7, h5, h6⟩ := h
  exact ⟨h1, h2, h8, h3.narrow hAB, h4.narrow hAB, h7.narrow hAB, h5, h6⟩
/-- the answer as a value: 0 nothing, 1 an int, 2 a boolean, 3 a text constant's number -/
def zRv (w : zWD) (k : Nat) (r : Int32) : Option Value := match k with
  | 0 => none
  | 1 => some (.int r)
  | 2 => some (.int r)
  | _ => some (.ref (zK w (zIx r)))
def zOk (k : Nat) (r : Int32) : Prop := match k with
  | 2 => r = 0 ∨ r = 1
  | 3 => zIx r < zNS
  | _ => True
def zPc (w : zWD) (av : List Value) (M : zMem) : Array Value → State → Prop := fun v U => v = av.toArray ∧ zRep w M U.heap ∧ zKK w (zFree w) U U.heap
def zQc (w : zWD) (k : Nat) (r : Int32) (M' : zMem) : Array Value → State → Outcome → State → Prop := fun _ st oc t => oc = .returned (zRv w k r) ∧ zOk k r ∧ zRep w M' t.heap ∧ va_F (zFree w) st t
/-- a method does what the tree f says -/
def zMt (l : Launch) (w : zWD) (y : MethodName) (cc : ByteArray) (maxL : Nat) (ret : Option FieldType) (rm : Room) (k : Nat) (av : List Value) (f : zMem → zTr) : Prop :=
  ∀ (M : zMem) (r : Int32) (M' : zMem), f M = some (r, M') → Met l y (Cond.code y cc maxL ret :: zW) rm (zPc w av M) (zQc w k r M') 0 0 (zFree w)
/-- the locals -/
def zLo (ls : Array Slot) (lv : List (Option Value)) : Prop := ls.size = lv.length ∧ lv_wf ls ∧ ∀ (i : Nat) (v : Value), lv[i]? = some (some v) → ls[i]? = some (.val v) ∧ v.category = 1
def zPr (lv : List (Option Value)) : List (Nat × Value) := (List.range lv.length).filterMap (fun i => (lv.getD i none).map (fun v => (i, v)))
theorem zPr_mem {lv : List (Option Value)} {q : Nat × Value} : q ∈ zPr lv ↔ lv[q.1]? = some (some q.2) := by
  obtain ⟨i, v⟩ := q
  simp only [zPr, List.mem_filterMap, List.mem_range, Option.map_eq_some_iff, Prod.mk.injEq]
  constructor
  · rintro ⟨j, hj, u, hu, rfl, rfl⟩
    rw [List.getElem?_eq_getElem hj]
    rw [List.getD_eq_getElem?_getD, List.getElem?_eq_getElem hj] at hu
    simpa using hu
  · intro h
    have hj := (List.getElem?_eq_some_iff.mp h).1
    refine ⟨i, hj, v, ?_, rfl, rfl⟩
    rw [List.getD_eq_getElem?_getD, h]
    rfl
theorem zLo.has {ls : Array Slot} {lv : List (Option Value)} (h : zLo ls lv) : lv_has ls lv.length (zPr lv) := ⟨h.1, h.2.1, fun q hq => (h.2.2 q.1 q.2 (zPr_mem.mp hq)).1⟩
theorem zLo.store {ls' : Array Slot} {lv lv' : List (Option Value)} {i : Nat} {v : Value} {ls : Array Slot} (h0 : zLo ls lv) (hi : i < lv.length) (hc : v.category = 1) (hl : lv.set i (some v) = lv')
    (h : lv_has ls' lv.length ((i, v) :: (zPr lv).filter (fun q => !(q.1 == i) && !(q.1 + 1 == i && q.2.category == 2)))) : zLo ls' lv' := by
  subst hl
  refine ⟨by rw [List.length_set]; exact h.1, h.2.1, fun j u hj => ?_⟩
  by_cases hji : j = i
  · subst hji
    rw [List.getElem?_set_self hi] at hj
    cases hj
    exact ⟨h.2.2 (j, v) List.mem_cons_self, hc⟩
  · rw [List.getElem?_set_ne (Ne.symm hji)] at hj
    have hu := (h0.2.2 j u hj).2
    refine ⟨h.2.2 (j, u) (List.mem_cons_of_mem _ (List.mem_filter.mpr ⟨zPr_mem.mpr hj, ?_⟩)), hu⟩
    simp [hji, hu]
/-- fewer locals are known -/
def zSub : List (Option Value) → List (Option Value) → Prop
  | [], [] => True
  | none :: a, _ :: b => zSub a b
  | some v :: a, some u :: b => v = u ∧ zSub a b
  | _, _ => False
theorem zSub.get : ∀ {lv' lv : List (Option Value)}, zSub lv' lv → lv'.length = lv.length ∧ ∀ (i : Nat) (v : Value), lv'[i]? = some (some v) → lv[i]? = some (some v)
  | [], [], _ => ⟨rfl, fun i v h => by simp at h⟩
  | none :: a, x :: b, h => by
    obtain ⟨h1, h2⟩ := zSub.get (lv' := a) (lv := b) (by simpa [zSub] using h)
    refine ⟨by simp [h1], fun i v hv => ?_⟩
    cases i with
    | zero => simp at hv
    | succ i => simpa using h2 i v (by simpa using hv)
  | some v :: a, some u :: b, h => by
    obtain ⟨h0, h⟩ : v = u ∧ zSub a b := h
    subst h0
    obtain ⟨h1, h2⟩ := zSub.get h
    refine ⟨by simp [h1], fun i v hv => ?_⟩
    cases i with
    | zero => simpa using hv
    | succ i => simpa using h2 i v (by simpa using hv)
  | some v :: a, none :: b, h => h.elim
  | some v :: a, [], h => h.elim
  | none :: a, [], h => by simp [zSub] at h
  | [], x :: b, h => by cases x <;> exact h.elim
theorem zLo.sub {ls : Array Slot} {lv lv' : List (Option Value)} (h : zLo ls lv) (hs : zSub lv' lv) : zLo ls lv' :=
  ⟨by rw [hs.get.1]; exact h.1, h.2.1, fun i v hv => h.2.2 i v (hs.get.2 i v hv)⟩
theorem zW_good : ∀ w ∈ zW, ((w.onTables && w.keeps) = true ∨ ∃ ty, w = .arrayClass ty) := fun w h => good_of_word (List.mem_filter.mp h).2
/-- what is fixed while a method runs -/
def zCx (p : Program) (s : State) (m : MethodId) (args : Array Value) (meth : Method) (c : Code) (w : zWD) (A : Nat → Prop) (own : String) (cc : ByteArray) (nL : Nat) (ret : Option FieldType) : Prop :=
  p.tables.exec = Jvm.exec ∧ c.code = cc ∧ c.maxLocals = nL ∧ s.vm.findClass own = some m.cls ∧ (∀ q ∈ zW, q.before args s = true) ∧ meth.locks = false ∧ meth.sig.returnType = ret ∧ zKK w A s s.heap ∧ ∀ q, zFree w q → A q
section ZC
variable {p : Program} {s : State} {m : MethodId} {args : Array Value} {meth : Method} {c : Code} {w : zWD} {A : Nat → Prop} {own : String} {cc : ByteArray} {nL : Nat} {ret : Option FieldType}
theorem zCx.ow (X : zCx p s m args meth c w A own cc nL ret) : s.vm.findClass own = some m.cls := X.2.2.2.1
theorem zCx.ts (X : zCx p s m args meth c w A own cc nL ret) : ∀ q ∈ zW, q.before args s = true := X.2.2.2.2.1
theorem zCx.locks (X : zCx p s m args meth c w A own cc nL ret) : meth.locks = false := X.2.2.2.2.2.1
theorem zCx.rt (X : zCx p s m args meth c w A own cc nL ret) : meth.sig.returnType = ret := X.2.2.2.2.2.2.1
theorem zCx.kk (X : zCx p s m args meth c w A own cc nL ret) : zKK w A s s.heap := X.2.2.2.2.2.2.2.1
theorem zCx.clo (X : zCx p s m args meth c w A own cc nL ret) : zClo w := X.2.2.2.2.2.2.2.1.2.2.1
theorem zCx.sub (X : zCx p s m args meth c w A own cc nL ret) : ∀ q, zFree w q → A q := X.2.2.2.2.2.2.2.2
theorem zCx.D (X : zCx p s m args meth c w A own cc nL ret) (M : zMem) : va_D A (zWl w M) := X.kk.D X.sub M
end ZC
/-- from here (place pc, locals lv, operands st, memory M) the walk comes where the tree t says -/
def zRe (p : Program) (l : Launch) (e : Env) (R : Room) (s : State) (m : MethodId) (args : Array Value) (below : List Frame) (meth : Method) (c : Code) (w : zWD) (A : Nat → Prop) (cs ss : Nat) (Qe : Int32 → zMem → State → Prop) (pc : Nat) (lv : List (Option Value)) (st : List Value) (M : zMem) (t : zTr) : Prop :=
  ∀ (r : Int32) (M' : zMem), t = some (r, M') → ∀ (H : Heap) (locs : List Loc) (ls : Array Slot), zRep w M H → va_S A s.heap H locs → zLo ls lv →
    W p l e R s m args below meth c H locs cs ss (Qe r M') (F0 m pc ls st)
/-- a method's own end -/
abbrev zRm (p : Program) (l : Launch) (e : Env) (R : Room) (s : State) (m : MethodId) (args : Array Value) (below : List Frame) (meth : Method) (c : Code) (w : zWD) (rk : Nat) (pc : Nat) (lv : List (Option Value)) (st : List Value) (M : zMem) (t : zTr) : Prop :=
  zRe p l e R s m args below meth c w (zFree w) 0 0 (fun r M' => MQ below (zQc w rk r M') args s 0 0 (zFree w)) pc lv st M t
theorem zMt.of {l : Launch} {w : zWD} {y : MethodName} {cc : ByteArray} {maxL : Nat} {ret : Option FieldType} {rm : Room} {k : Nat} {av : List Value} {f : zMem → zTr} (hy : plainName y.cls = true) (lv : List (Option Value)) (hlv : av.map some ++ List.replicate (maxL - av.length) none = lv) (hlen : av.length ≤ maxL) (hcat : ∀ v ∈ av, v.category = 1)
    (h : ∀ (p : Program) (e : Env) (s : State) (m : MethodId) (args : Array Value) (below : List Frame) (meth : Method) (c : Code), zCx p s m args meth c w (zFree w) y.cls cc maxL ret → ∀ M : zMem, zRm p l e rm s m args below meth c w k 0 lv [] M (f M)) : zMt l w y cc maxL ret rm k av f := by
  intro M r M' hf
  refine Met.ofW (cc := cc) (maxL := maxL) (ret := ret) hy rfl ?_
  intro p e s m args below meth c s₁ B hml hv
  obtain ⟨rfl, hR, hK⟩ := hv
  have hts := atoms_spec (ws := Cond.code y cc maxL ret :: zW) B.pre
  have X : zCx p s m av.toArray meth c w (zFree w) y.cls cc maxL ret := ⟨B.exec, B.bytes, hml, findClass_of_methodNamed B.named, fun q hq => hts q (List.mem_cons_of_mem _ hq), B.notSynchronized, B.returns, hK, fun _ h => h⟩
  have hsl : ∀ av : List Value, (∀ v ∈ av, v.category = 1) → lg_sl av = av.map Slot.val := by
    intro av
    induction av with
    | nil => intro _; rfl
    | cons a b ih =>
      intro hc
      have ha := hc a List.mem_cons_self
      have hb := ih (fun v hv => hc v (List.mem_cons_of_mem _ hv))
      simp only [lg_sl, List.flatMap_cons, List.map_cons] at hb ⊢
      rw [if_neg (by omega), hb]
      rfl
  have h1 := hsl av hcat
  have hl := lv_entry av (n := maxL) (by rw [h1, List.length_map]; exact hlen)
  rw [lg_entry_eq]
  generalize hls : (lg_sl av ++ List.replicate (maxL - (lg_sl av).length) Slot.unset).toArray = ls at hl ⊢
  have hL : zLo ls lv := by
    subst hlv
    refine ⟨?_, hl.2.1, fun i v hi => ?_⟩
    · rw [hl.1]
      simp
      omega
    · have hlt : i < av.length := by
        rcases Nat.lt_or_ge i av.length with q | q
        · exact q
        · rw [List.getElem?_append_right (by simpa using q), List.getElem?_replicate] at hi
          split at hi <;> cases hi
      rw [List.getElem?_append_left (by simpa using hlt), List.getElem?_map] at hi
      cases hg : av[i]? with
      | none => rw [hg] at hi; cases hi
      | some u =>
        rw [hg] at hi
        have eu : u = v := by simpa using hi
        subst eu
        refine ⟨?_, hcat u (List.mem_of_getElem? hg)⟩
        rw [← hls, List.getElem?_toArray, h1, List.getElem?_append_left (by simpa using hlt), List.getElem?_map, hg]
        rfl
  exact h p e s m av.toArray below meth c X M r M' hf s.heap [] ls hR va_S.rf hL
end
section
/-! ===== one rule an instruction, for trees ===== -/
section ZR
variable {p : Program} {l : Launch} {e : Env} {R : Room} {s : State} {m : MethodId} {args : Array Value} {below : List Frame} {meth : Method} {c : Code} {w : zWD} {A : Nat → Prop} {cs ss : Nat} {Qe : Int32 → zMem → State → Prop} {own : String} {cc : ByteArray} {nL : Nat} {ret : Option FieldType} {pc : Nat} {lv lv' : List (Option Value)} {st : List Value} {M : zMem} {t u : zTr} {f : zMem → zTr}
theorem re_none : zRe p l e R s m args below meth c w A cs ss Qe pc lv st M none := fun _ _ h => by cases h
theorem re_ck {q : Prop} [Decidable q] (h : q → zRe p l e R s m args below meth c w A cs ss Qe pc lv st M t) : zRe p l e R s m args below meth c w A cs ss Qe pc lv st M (zCk q t) := by
  by_cases hq : q
  · rw [zCk, if_pos hq]; exact h hq
  · rw [zCk, if_neg hq]; exact re_none
theorem re_sub (h : zRe p l e R s m args below meth c w A cs ss Qe pc lv' st M t) (hs : zSub lv' lv) : zRe p l e R s m args below meth c w A cs ss Qe pc lv st M t :=
  fun r M' ht H locs ls hR hS hL => h r M' ht H locs ls hR hS (hL.sub hs)
theorem re_iload_n (X : zCx p s m args meth c w A own cc nL ret) {k : Fin 4} {i : Nat} {x : Int32} (d : decode cc pc = .ok (.iload_n k, 1)) (hk : (k : Nat) = i) (hv : lv[i]? = some (some (.int x))) (h : zRe p l e R s m args below meth c w A cs ss Qe (pc + 1) lv (.int x :: st) M t) : zRe p l e R s m args below meth c w A cs ss Qe pc lv st M t :=
  fun r M' ht H locs ls hR hS hL => lv_iload_n X.1 X.2.1 d hk (hL.2.2 i _ hv).1 (h r M' ht H locs ls hR hS hL)
theorem re_iload (X : zCx p s m args meth c w A own cc nL ret) {i : Nat} {x : Int32} (d : decode cc pc = .ok (.iload i, 2)) (hv : lv[i]? = some (some (.int x))) (h : zRe p l e R s m args below meth c w A cs ss Qe (pc + 2) lv (.int x :: st) M t) : zRe p l e R s m args below meth c w A cs ss Qe pc lv st M t :=
  fun r M' ht H locs ls hR hS hL => lv_iload X.1 X.2.1 d (hL.2.2 i _ hv).1 (h r M' ht H locs ls hR hS hL)
theorem re_aload_n (X : zCx p s m args meth c w A own cc nL ret) {k : Fin 4} {i : Nat} {x : Nat} (d : decode cc pc = .ok (.aload_n k, 1)) (hk : (k : Nat) = i) (hv : lv[i]? = some (some (.ref x))) (h : zRe p l e R s m args below meth c w A cs ss Qe (pc + 1) lv (.ref x :: st) M t) : zRe p l e R s m args below meth c w A cs ss Qe pc lv st M t :=
  fun r M' ht H locs ls hR hS hL => lv_aload_n X.1 X.2.1 d hk (hL.2.2 i _ hv).1 (h r M' ht H locs ls hR hS hL)
theorem re_aload (X : zCx p s m args meth c w A own cc nL ret) {i : Nat} {x : Nat} (d : decode cc pc = .ok (.aload i, 2)) (hv : lv[i]? = some (some (.ref x))) (h : zRe p l e R s m args below meth c w A cs ss Qe (pc + 2) lv (.ref x :: st) M t) : zRe p l e R s m args below meth c w A cs ss Qe pc lv st M t :=
  fun r M' ht H locs ls hR hS hL => lv_aload X.1 X.2.1 d (hL.2.2 i _ hv).1 (h r M' ht H locs ls hR hS hL)
theorem re_istore_n (X : zCx p s m args meth c w A own cc nL ret) {k : Fin 4} {i : Nat} {x : Int32} (d : decode cc pc = .ok (.istore_n k, 1)) (hk : (k : Nat) = i) (hi : i < lv.length) (hl : lv.set i (some (.int x)) = lv') (h : zRe p l e R s m args below meth c w A cs ss Qe (pc + 1) lv' st M t) : zRe p l e R s m args below meth c w A cs ss Qe pc lv (.int x :: st) M t :=
  fun r M' ht H locs ls hR hS hL => lv_istore_n X.1 X.2.1 d hk hL.has hi rfl (fun ls' hl' => h r M' ht H locs ls' hR hS (hL.store hi rfl hl hl'))
theorem re_istore (X : zCx p s m args meth c w A own cc nL ret) {i : Nat} {x : Int32} (d : decode cc pc = .ok (.istore i, 2)) (hi : i < lv.length) (hl : lv.set i (some (.int x)) = lv') (h : zRe p l e R s m args below meth c w A cs ss Qe (pc + 2) lv' st M t) : zRe p l e R s m args below meth c w A cs ss Qe pc lv (.int x :: st) M t :=
  fun r M' ht H locs ls hR hS hL => lv_istore X.1 X.2.1 d hL.has hi rfl (fun ls' hl' => h r M' ht H locs ls' hR hS (hL.store hi rfl hl hl'))
theorem re_iinc (X : zCx p s m args meth c w A own cc nL ret) {i : Nat} {n : Int} {x v : Int32} (d : decode cc pc = .ok (.iinc i n, 3)) (hx : lv[i]? = some (some (.int x))) (hn : Int32.ofInt n = v) (hl : lv.set i (some (.int (x + v))) = lv') (h : zRe p l e R s m args below meth c w A cs ss Qe (pc + 3) lv' st M t) : zRe p l e R s m args below meth c w A cs ss Qe pc lv st M t :=
  fun r M' ht H locs ls hR hS hL => by
    have hi : i < lv.length := (List.getElem?_eq_some_iff.mp hx).1
    obtain ⟨k, hk⟩ := List.getElem?_of_mem (zPr_mem (lv := lv) (q := (i, .int x)).mpr hx)
    exact lv_iinc X.1 X.2.1 d hL.has hk (by rw [hn]) hi rfl (fun ls' hl' => h r M' ht H locs ls' hR hS (hL.store hi rfl hl hl'))
theorem re_iconst (X : zCx p s m args meth c w A own cc nL ret) {n : Int} {v : Int32} (d : decode cc pc = .ok (.iconst n, 1)) (hv : Int32.ofInt n = v) (h : zRe p l e R s m args below meth c w A cs ss Qe (pc + 1) lv (.int v :: st) M t) : zRe p l e R s m args below meth c w A cs ss Qe pc lv st M t :=
  fun r M' ht H locs ls hR hS hL => lv_iconst X.1 X.2.1 d hv (h r M' ht H locs ls hR hS hL)
theorem re_bipush (X : zCx p s m args meth c w A own cc nL ret) {n : Int} {v : Int32} (d : decode cc pc = .ok (.bipush n, 2)) (hv : (Int8.ofInt n).toInt32 = v) (h : zRe p l e R s m args below meth c w A cs ss Qe (pc + 2) lv (.int v :: st) M t) : zRe p l e R s m args below meth c w A cs ss Qe pc lv st M t :=
  fun r M' ht H locs ls hR hS hL => lv_bipush X.1 X.2.1 d hv (h r M' ht H locs ls hR hS hL)
theorem re_sipush (X : zCx p s m args meth c w A own cc nL ret) {n : Int} {v : Int32} (d : decode cc pc = .ok (.sipush n, 3)) (hv : (Int16.ofInt n).toInt32 = v) (h : zRe p l e R s m args below meth c w A cs ss Qe (pc + 3) lv (.int v :: st) M t) : zRe p l e R s m args below meth c w A cs ss Qe pc lv st M t :=
  fun r M' ht H locs ls hR hS hL => lv_sipush X.1 X.2.1 d hv (h r M' ht H locs ls hR hS hL)
theorem re_ldc (X : zCx p s m args meth c w A own cc nL ret) {i : Nat} {v : Int32} (hc : Cond.constant own i v ∈ zW) (d : decode cc pc = .ok (.ldc i, 2)) (h : zRe p l e R s m args below meth c w A cs ss Qe (pc + 2) lv (.int v :: st) M t) : zRe p l e R s m args below meth c w A cs ss Qe pc lv st M t :=
  fun r M' ht H locs ls hR hS hL => lv_ldc X.1 X.2.1 X.ow (X.ts _ hc) d (h r M' ht H locs ls hR hS hL)
theorem re_ldcw (X : zCx p s m args meth c w A own cc nL ret) {i : Nat} {v : Int32} (hc : Cond.constant own i v ∈ zW) (d : decode cc pc = .ok (.ldc_w i, 3)) (h : zRe p l e R s m args below meth c w A cs ss Qe (pc + 3) lv (.int v :: st) M t) : zRe p l e R s m args below meth c w A cs ss Qe pc lv st M t :=
  fun r M' ht H locs ls hR hS hL => lv_ldcw X.1 X.2.1 X.ow (X.ts _ hc) d (h r M' ht H locs ls hR hS hL)
theorem re_dup (X : zCx p s m args meth c w A own cc nL ret) {v : Value} (d : decode cc pc = .ok (.dup, 1)) (hv : v.category = 1) (h : zRe p l e R s m args below meth c w A cs ss Qe (pc + 1) lv (v :: v :: st) M t) : zRe p l e R s m args below meth c w A cs ss Qe pc lv (v :: st) M t :=
  fun r M' ht H locs ls hR hS hL => lv_dup X.1 X.2.1 d hv (h r M' ht H locs ls hR hS hL)
theorem re_dup2 (X : zCx p s m args meth c w A own cc nL ret) {v v2 : Value} (d : decode cc pc = .ok (.dup2, 1)) (hv : v.category = 1) (hv2 : v2.category = 1) (h : zRe p l e R s m args below meth c w A cs ss Qe (pc + 1) lv (v :: v2 :: v :: v2 :: st) M t) : zRe p l e R s m args below meth c w A cs ss Qe pc lv (v :: v2 :: st) M t :=
  fun r M' ht H locs ls hR hS hL => lv_dup2_11 X.1 X.2.1 d hv hv2 (h r M' ht H locs ls hR hS hL)
theorem re_pop (X : zCx p s m args meth c w A own cc nL ret) {v : Value} (d : decode cc pc = .ok (.pop, 1)) (hv : v.category = 1) (h : zRe p l e R s m args below meth c w A cs ss Qe (pc + 1) lv st M t) : zRe p l e R s m args below meth c w A cs ss Qe pc lv (v :: st) M t :=
  fun r M' ht H locs ls hR hS hL => lv_pop X.1 X.2.1 d hv (h r M' ht H locs ls hR hS hL)
theorem re_goto (X : zCx p s m args meth c w A own cc nL ret) {off : Int} {tgt : Nat} (d : decode cc pc = .ok (.goto off, 3)) (hg : (pc : Int) + off = (tgt : Int)) (h : zRe p l e R s m args below meth c w A cs ss Qe tgt lv st M t) : zRe p l e R s m args below meth c w A cs ss Qe pc lv st M t :=
  fun r M' ht H locs ls hR hS hL => lv_goto X.1 X.2.1 d hg (h r M' ht H locs ls hR hS hL)
theorem re_iadd (X : zCx p s m args meth c w A own cc nL ret) {x y : Int32} (d : decode cc pc = .ok (.iadd, 1)) (h : zRe p l e R s m args below meth c w A cs ss Qe (pc + 1) lv (.int (x + y) :: st) M t) : zRe p l e R s m args below meth c w A cs ss Qe pc lv (.int y :: .int x :: st) M t :=
  fun r M' ht H locs ls hR hS hL => lv_iadd X.1 X.2.1 d (h r M' ht H locs ls hR hS hL)
theorem re_isub (X : zCx p s m args meth c w A own cc nL ret) {x y : Int32} (d : decode cc pc = .ok (.isub, 1)) (h : zRe p l e R s m args below meth c w A cs ss Qe (pc + 1) lv (.int (x - y) :: st) M t) : zRe p l e R s m args below meth c w A cs ss Qe pc lv (.int y :: .int x :: st) M t :=
  fun r M' ht H locs ls hR hS hL => lv_isub X.1 X.2.1 d (h r M' ht H locs ls hR hS hL)
theorem re_imul (X : zCx p s m args meth c w A own cc nL ret) {x y : Int32} (d : decode cc pc = .ok (.imul, 1)) (h : zRe p l e R s m args below meth c w A cs ss Qe (pc + 1) lv (.int (x * y) :: st) M t) : zRe p l e R s m args below meth c w A cs ss Qe pc lv (.int y :: .int x :: st) M t :=
  fun r M' ht H locs ls hR hS hL => lv_imul X.1 X.2.1 d (h r M' ht H locs ls hR hS hL)
theorem re_iand (X : zCx p s m args meth c w A own cc nL ret) {x y : Int32} (d : decode cc pc = .ok (.iand, 1)) (h : zRe p l e R s m args below meth c w A cs ss Qe (pc + 1) lv (.int (x &&& y) :: st) M t) : zRe p l e R s m args below meth c w A cs ss Qe pc lv (.int y :: .int x :: st) M t :=
  fun r M' ht H locs ls hR hS hL => lv_iand X.1 X.2.1 d (h r M' ht H locs ls hR hS hL)
theorem re_ior (X : zCx p s m args meth c w A own cc nL ret) {x y : Int32} (d : decode cc pc = .ok (.ior, 1)) (h : zRe p l e R s m args below meth c w A cs ss Qe (pc + 1) lv (.int (x ||| y) :: st) M t) : zRe p l e R s m args below meth c w A cs ss Qe pc lv (.int y :: .int x :: st) M t :=
  fun r M' ht H locs ls hR hS hL => lv_ior X.1 X.2.1 d (h r M' ht H locs ls hR hS hL)
theorem re_ixor (X : zCx p s m args meth c w A own cc nL ret) {x y : Int32} (d : decode cc pc = .ok (.ixor, 1)) (h : zRe p l e R s m args below meth c w A cs ss Qe (pc + 1) lv (.int (x ^^^ y) :: st) M t) : zRe p l e R s m args below meth c w A cs ss Qe pc lv (.int y :: .int x :: st) M t :=
  fun r M' ht H locs ls hR hS hL => lv_ixor X.1 X.2.1 d (h r M' ht H locs ls hR hS hL)
theorem re_ishl (X : zCx p s m args meth c w A own cc nL ret) {x y : Int32} (d : decode cc pc = .ok (.ishl, 1)) (h : zRe p l e R s m args below meth c w A cs ss Qe (pc + 1) lv (.int (x <<< (y &&& 31)) :: st) M t) : zRe p l e R s m args below meth c w A cs ss Qe pc lv (.int y :: .int x :: st) M t :=
  fun r M' ht H locs ls hR hS hL => lv_ishl X.1 X.2.1 d (h r M' ht H locs ls hR hS hL)
theorem re_ishr (X : zCx p s m args meth c w A own cc nL ret) {x y : Int32} (d : decode cc pc = .ok (.ishr, 1)) (h : zRe p l e R s m args below meth c w A cs ss Qe (pc + 1) lv (.int (x >>> (y &&& 31)) :: st) M t) : zRe p l e R s m args below meth c w A cs ss Qe pc lv (.int y :: .int x :: st) M t :=
  fun r M' ht H locs ls hR hS hL => lv_ishr X.1 X.2.1 d (h r M' ht H locs ls hR hS hL)
abbrev zUsr (x y : Int32) : Int32 := (x.toUInt32 >>> (y.toUInt32 &&& Int32.toUInt32 31)).toInt32
theorem re_iushr (X : zCx p s m args meth c w A own cc nL ret) {x y : Int32} (d : decode cc pc = .ok (.iushr, 1)) (h : zRe p l e R s m args below meth c w A cs ss Qe (pc + 1) lv (.int (zUsr x y) :: st) M t) : zRe p l e R s m args below meth c w A cs ss Qe pc lv (.int y :: .int x :: st) M t :=
  fun r M' ht H locs ls hR hS hL => lv_iushr X.1 X.2.1 d rfl (h r M' ht H locs ls hR hS hL)
theorem re_i2b (X : zCx p s m args meth c w A own cc nL ret) {x : Int32} (d : decode cc pc = .ok (.i2b, 1)) (h : zRe p l e R s m args below meth c w A cs ss Qe (pc + 1) lv (.int x.toInt8.toInt32 :: st) M t) : zRe p l e R s m args below meth c w A cs ss Qe pc lv (.int x :: st) M t :=
  fun r M' ht H locs ls hR hS hL => lv_i2b X.1 X.2.1 d rfl (h r M' ht H locs ls hR hS hL)
theorem re_idivK (X : zCx p s m args meth c w A own cc nL ret) {x y : Int32} (hy : ¬ y = 0) (d : decode cc pc = .ok (.idiv, 1)) (h : zRe p l e R s m args below meth c w A cs ss Qe (pc + 1) lv (.int (x / y) :: st) M t) : zRe p l e R s m args below meth c w A cs ss Qe pc lv (.int y :: .int x :: st) M t :=
  fun r M' ht H locs ls hR hS hL => lv_idiv X.1 X.2.1 d hy (h r M' ht H locs ls hR hS hL)
theorem re_idiv (X : zCx p s m args meth c w A own cc nL ret) {x y : Int32} (d : decode cc pc = .ok (.idiv, 1)) (h : zRe p l e R s m args below meth c w A cs ss Qe (pc + 1) lv (.int (x / y) :: st) M t) : zRe p l e R s m args below meth c w A cs ss Qe pc lv (.int y :: .int x :: st) M (zCk (¬ y = 0) t) :=
  re_ck fun hy => re_idivK X hy d h
theorem re_iremK (X : zCx p s m args meth c w A own cc nL ret) {x y : Int32} (hy : ¬ y = 0) (d : decode cc pc = .ok (.irem, 1)) (h : zRe p l e R s m args below meth c w A cs ss Qe (pc + 1) lv (.int (x - x / y * y) :: st) M t) : zRe p l e R s m args below meth c w A cs ss Qe pc lv (.int y :: .int x :: st) M t :=
  fun r M' ht H locs ls hR hS hL => lv_irem X.1 X.2.1 d hy (h r M' ht H locs ls hR hS hL)
theorem re_irem (X : zCx p s m args meth c w A own cc nL ret) {x y : Int32} (d : decode cc pc = .ok (.irem, 1)) (h : zRe p l e R s m args below meth c w A cs ss Qe (pc + 1) lv (.int (x - x / y * y) :: st) M t) : zRe p l e R s m args below meth c w A cs ss Qe pc lv (.int y :: .int x :: st) M (zCk (¬ y = 0) t) :=
  re_ck fun hy => re_iremK X hy d h
theorem re_icmp_eq (X : zCx p s m args meth c w A own cc nL ret) {x y : Int32} {off : Int} {tgt : Nat} (d : decode cc pc = .ok (.if_icmp .eq off, 3)) (hg : (pc : Int) + off = (tgt : Int)) (h1 : x = y → zRe p l e R s m args below meth c w A cs ss Qe tgt lv st M t) (h2 : ¬ (x = y) → zRe p l e R s m args below meth c w A cs ss Qe (pc + 3) lv st M u) : zRe p l e R s m args below meth c w A cs ss Qe pc lv (.int y :: .int x :: st) M (if x = y then t else u) := by
  intro r M' ht H locs ls hR hS hL
  exact lv_icmp_eq X.1 X.2.1 d hg (fun q => by rw [if_pos q] at ht; exact h1 q r M' ht H locs ls hR hS hL) (fun q => by rw [if_neg q] at ht; exact h2 q r M' ht H locs ls hR hS hL)
theorem re_if_eq (X : zCx p s m args meth c w A own cc nL ret) {x : Int32} {off : Int} {tgt : Nat} (d : decode cc pc = .ok (.ifCond .eq off, 3)) (hg : (pc : Int) + off = (tgt : Int)) (h1 : x = 0 → zRe p l e R s m args below meth c w A cs ss Qe tgt lv st M t) (h2 : ¬ (x = 0) → zRe p l e R s m args below meth c w A cs ss Qe (pc + 3) lv st M u) : zRe p l e R s m args below meth c w A cs ss Qe pc lv (.int x :: st) M (if x = 0 then t else u) := by
  intro r M' ht H locs ls hR hS hL
  exact lv_if_eq X.1 X.2.1 d hg (fun q => by rw [if_pos q] at ht; exact h1 q r M' ht H locs ls hR hS hL) (fun q => by rw [if_neg q] at ht; exact h2 q r M' ht H locs ls hR hS hL)
theorem re_icmp_ne (X : zCx p s m args meth c w A own cc nL ret) {x y : Int32} {off : Int} {tgt : Nat} (d : decode cc pc = .ok (.if_icmp .ne off, 3)) (hg : (pc : Int) + off = (tgt : Int)) (h1 : x = y → zRe p l e R s m args below meth c w A cs ss Qe (pc + 3) lv st M t) (h2 : ¬ (x = y) → zRe p l e R s m args below meth c w A cs ss Qe tgt lv st M u) : zRe p l e R s m args below meth c w A cs ss Qe pc lv (.int y :: .int x :: st) M (if x = y then t else u) := by
  intro r M' ht H locs ls hR hS hL
  exact lv_icmp_ne X.1 X.2.1 d hg (fun q => by rw [if_neg q] at ht; exact h2 q r M' ht H locs ls hR hS hL) (fun q => by rw [if_pos q] at ht; exact h1 q r M' ht H locs ls hR hS hL)
theorem re_if_ne (X : zCx p s m args meth c w A own cc nL ret) {x : Int32} {off : Int} {tgt : Nat} (d : decode cc pc = .ok (.ifCond .ne off, 3)) (hg : (pc : Int) + off = (tgt : Int)) (h1 : x = 0 → zRe p l e R s m args below meth c w A cs ss Qe (pc + 3) lv st M t) (h2 : ¬ (x = 0) → zRe p l e R s m args below meth c w A cs ss Qe tgt lv st M u) : zRe p l e R s m args below meth c w A cs ss Qe pc lv (.int x :: st) M (if x = 0 then t else u) := by
  intro r M' ht H locs ls hR hS hL
  exact lv_if_ne X.1 X.2.1 d hg (fun q => by rw [if_neg q] at ht; exact h2 q r M' ht H locs ls hR hS hL) (fun q => by rw [if_pos q] at ht; exact h1 q r M' ht H locs ls hR hS hL)
theorem re_icmp_lt (X : zCx p s m args meth c w A own cc nL ret) {x y : Int32} {off : Int} {tgt : Nat} (d : decode cc pc = .ok (.if_icmp .lt off, 3)) (hg : (pc : Int) + off = (tgt : Int)) (h1 : x < y → zRe p l e R s m args below meth c w A cs ss Qe tgt lv st M t) (h2 : ¬ (x < y) → zRe p l e R s m args below meth c w A cs ss Qe (pc + 3) lv st M u) : zRe p l e R s m args below meth c w A cs ss Qe pc lv (.int y :: .int x :: st) M (if x < y then t else u) := by
  intro r M' ht H locs ls hR hS hL
  exact lv_icmp_lt X.1 X.2.1 d hg (fun q => by rw [if_pos q] at ht; exact h1 q r M' ht H locs ls hR hS hL) (fun q => by rw [if_neg q] at ht; exact h2 q r M' ht H locs ls hR hS hL)
theorem re_if_lt (X : zCx p s m args meth c w A own cc nL ret) {x : Int32} {off : Int} {tgt : Nat} (d : decode cc pc = .ok (.ifCond .lt off, 3)) (hg : (pc : Int) + off = (tgt : Int)) (h1 : x < 0 → zRe p l e R s m args below meth c w A cs ss Qe tgt lv st M t) (h2 : ¬ (x < 0) → zRe p l e R s m args below meth c w A cs ss Qe (pc + 3) lv st M u) : zRe p l e R s m args below meth c w A cs ss Qe pc lv (.int x :: st) M (if x < 0 then t else u) := by
  intro r M' ht H locs ls hR hS hL
  exact lv_if_lt X.1 X.2.1 d hg (fun q => by rw [if_pos q] at ht; exact h1 q r M' ht H locs ls hR hS hL) (fun q => by rw [if_neg q] at ht; exact h2 q r M' ht H locs ls hR hS hL)
theorem re_icmp_ge (X : zCx p s m args meth c w A own cc nL ret) {x y : Int32} {off : Int} {tgt : Nat} (d : decode cc pc = .ok (.if_icmp .ge off, 3)) (hg : (pc : Int) + off = (tgt : Int)) (h1 : y ≤ x → zRe p l e R s m args below meth c w A cs ss Qe tgt lv st M t) (h2 : ¬ (y ≤ x) → zRe p l e R s m args below meth c w A cs ss Qe (pc + 3) lv st M u) : zRe p l e R s m args below meth c w A cs ss Qe pc lv (.int y :: .int x :: st) M (if y ≤ x then t else u) := by
  intro r M' ht H locs ls hR hS hL
  exact lv_icmp_ge X.1 X.2.1 d hg (fun q => by rw [if_pos q] at ht; exact h1 q r M' ht H locs ls hR hS hL) (fun q => by rw [if_neg q] at ht; exact h2 q r M' ht H locs ls hR hS hL)
theorem re_if_ge (X : zCx p s m args meth c w A own cc nL ret) {x : Int32} {off : Int} {tgt : Nat} (d : decode cc pc = .ok (.ifCond .ge off, 3)) (hg : (pc : Int) + off = (tgt : Int)) (h1 : 0 ≤ x → zRe p l e R s m args below meth c w A cs ss Qe tgt lv st M t) (h2 : ¬ (0 ≤ x) → zRe p l e R s m args below meth c w A cs ss Qe (pc + 3) lv st M u) : zRe p l e R s m args below meth c w A cs ss Qe pc lv (.int x :: st) M (if 0 ≤ x then t else u) := by
  intro r M' ht H locs ls hR hS hL
  exact lv_if_ge X.1 X.2.1 d hg (fun q => by rw [if_pos q] at ht; exact h1 q r M' ht H locs ls hR hS hL) (fun q => by rw [if_neg q] at ht; exact h2 q r M' ht H locs ls hR hS hL)
theorem re_icmp_gt (X : zCx p s m args meth c w A own cc nL ret) {x y : Int32} {off : Int} {tgt : Nat} (d : decode cc pc = .ok (.if_icmp .gt off, 3)) (hg : (pc : Int) + off = (tgt : Int)) (h1 : y < x → zRe p l e R s m args below meth c w A cs ss Qe tgt lv st M t) (h2 : ¬ (y < x) → zRe p l e R s m args below meth c w A cs ss Qe (pc + 3) lv st M u) : zRe p l e R s m args below meth c w A cs ss Qe pc lv (.int y :: .int x :: st) M (if y < x then t else u) := by
  intro r M' ht H locs ls hR hS hL
  exact lv_icmp_gt X.1 X.2.1 d hg (fun q => by rw [if_pos q] at ht; exact h1 q r M' ht H locs ls hR hS hL) (fun q => by rw [if_neg q] at ht; exact h2 q r M' ht H locs ls hR hS hL)
theorem re_if_gt (X : zCx p s m args meth c w A own cc nL ret) {x : Int32} {off : Int} {tgt : Nat} (d : decode cc pc = .ok (.ifCond .gt off, 3)) (hg : (pc : Int) + off = (tgt : Int)) (h1 : 0 < x → zRe p l e R s m args below meth c w A cs ss Qe tgt lv st M t) (h2 : ¬ (0 < x) → zRe p l e R s m args below meth c w A cs ss Qe (pc + 3) lv st M u) : zRe p l e R s m args below meth c w A cs ss Qe pc lv (.int x :: st) M (if 0 < x then t else u) := by
  intro r M' ht H locs ls hR hS hL
  exact lv_if_gt X.1 X.2.1 d hg (fun q => by rw [if_pos q] at ht; exact h1 q r M' ht H locs ls hR hS hL) (fun q => by rw [if_neg q] at ht; exact h2 q r M' ht H locs ls hR hS hL)
theorem re_icmp_le (X : zCx p s m args meth c w A own cc nL ret) {x y : Int32} {off : Int} {tgt : Nat} (d : decode cc pc = .ok (.if_icmp .le off, 3)) (hg : (pc : Int) + off = (tgt : Int)) (h1 : x ≤ y → zRe p l e R s m args below meth c w A cs ss Qe tgt lv st M t) (h2 : ¬ (x ≤ y) → zRe p l e R s m args below meth c w A cs ss Qe (pc + 3) lv st M u) : zRe p l e R s m args below meth c w A cs ss Qe pc lv (.int y :: .int x :: st) M (if x ≤ y then t else u) := by
  intro r M' ht H locs ls hR hS hL
  exact lv_icmp_le X.1 X.2.1 d hg (fun q => by rw [if_pos q] at ht; exact h1 q r M' ht H locs ls hR hS hL) (fun q => by rw [if_neg q] at ht; exact h2 q r M' ht H locs ls hR hS hL)
theorem re_if_le (X : zCx p s m args meth c w A own cc nL ret) {x : Int32} {off : Int} {tgt : Nat} (d : decode cc pc = .ok (.ifCond .le off, 3)) (hg : (pc : Int) + off = (tgt : Int)) (h1 : x ≤ 0 → zRe p l e R s m args below meth c w A cs ss Qe tgt lv st M t) (h2 : ¬ (x ≤ 0) → zRe p l e R s m args below meth c w A cs ss Qe (pc + 3) lv st M u) : zRe p l e R s m args below meth c w A cs ss Qe pc lv (.int x :: st) M (if x ≤ 0 then t else u) := by
  intro r M' ht H locs ls hR hS hL
  exact lv_if_le X.1 X.2.1 d hg (fun q => by rw [if_pos q] at ht; exact h1 q r M' ht H locs ls hR hS hL) (fun q => by rw [if_neg q] at ht; exact h2 q r M' ht H locs ls hR hS hL)
end ZR
end
section
section ZR2
variable {p : Program} {l : Launch} {e : Env} {R : Room} {s : State} {m : MethodId} {args : Array Value} {below : List Frame} {meth : Method} {c : Code} {w : zWD} {A : Nat → Prop} {cs ss : Nat} {Qe : Int32 → zMem → State → Prop} {own : String} {cc : ByteArray} {nL : Nat} {ret : Option FieldType} {pc : Nat} {lv lv' : List (Option Value)} {st : List Value} {M : zMem} {t u : zTr} {f : zMem → zTr}
theorem zEn_obj {k n o : Nat} (ho : zKd0 o = (k, n)) (hk : k < 11) : zEn w M o = .inr (k, (List.range n).map (fun i => zFv w M k o i)) := by
  simp only [zEn, ho, if_pos hk]
theorem zEn_arr {k n o : Nat} (ho : zKd0 o = (k, n)) (h1 : 11 ≤ k) (h2 : k < 14) : zEn w M o = .inl (zC w k, n, .inl (M o)) := by
  simp only [zEn, ho, if_neg (show ¬ k < 11 by omega), if_pos h2]
theorem zEn_rows {k n o : Nat} (ho : zKd0 o = (k, n)) (h1 : 14 ≤ k) : zEn w M o = .inl (zC w (zAk k), n, .inr (.inr (.inr (.inr (fun i => some (zA w (zRf o i))))))) := by
  simp only [zEn, ho, if_neg (show ¬ k < 11 by omega), if_neg (show ¬ k < 14 by omega)]
theorem zFv_int {k o i : Nat} (h : zFr k i = false) : zFv w M k o i = .int (M o i) := by simp [zFv, h]
theorem zFv_ref {k o i : Nat} (h : zFr k i = true) : zFv w M k o i = .ref (zA w (zRf o i)) := by simp [zFv, h]
theorem zIn_vp {i : Int32} {n : Nat} (h : zIn i n) : vp_in i n := vp_in_iff.mpr h
/-- a class of the system, by its number -/
def zCl (ci N : Nat) (C : String) (T : u_T) (ty : Nat → FieldType) : Prop := vwCl[ci]? = some (C, T, N) ∧ ci < 11 ∧ (∀ k, k < N → parseFieldDescriptor (T k).2.2.1 = some (ty k)) ∧ (∀ a, a < N → ∀ b, b < N → a ≠ b → (T a).2.1 ≠ (T b).2.1) ∧ ∀ w ∈ u_ws C T N, w ∈ zW
theorem re_getV (X : zCx p s m args meth c w A own cc nL ret) {ci N k o idx : Nat} {C : String} {T : u_T} {ty : Nat → FieldType} (B : zCl ci N C T ty) (hk : k < N) (L : Cond.fieldLink own idx (T k).1 (T k).2.1 (T k).2.2.1 ∈ zW) (ho : zKd w o = (ci, N)) {v : Value} (hv : zFv w M ci o k = v) (d : decode cc pc = .ok (.getfield idx, 3)) (h : zRe p l e R s m args below meth c w A cs ss Qe (pc + 3) lv (v :: st) M t) : zRe p l e R s m args below meth c w A cs ss Qe pc lv (.ref (zA w o) :: st) M t := by
  intro r M' ht H locs ls hR hS hL
  obtain ⟨hx, hb, -, hown, hts, -, -, hKK, hsub⟩ := id X
  obtain ⟨b1, b2, b3, b4, b5⟩ := B
  obtain ⟨hlv, ho0⟩ := zKd_live ho (by omega)
  obtain ⟨pk, hpk⟩ := zLi_mem (zKd0_lt ho0 (by omega)) hlv
  refine va_get hx hb hts b5 hown hKK.1 hR pk (by rw [zWl_get w M hpk, zEn_obj ho0 b2]) b1 k hk (hts _ L) (fun _ q => q) (v := v) ?_ d (h r M' ht H locs ls hR hS hL)
  rw [List.getElem?_map, List.getElem?_range hk, ← hv]
  rfl
theorem re_getI (X : zCx p s m args meth c w A own cc nL ret) {ci N k o idx : Nat} {C : String} {T : u_T} {ty : Nat → FieldType} (B : zCl ci N C T ty) (hk : k < N) (L : Cond.fieldLink own idx (T k).1 (T k).2.1 (T k).2.2.1 ∈ zW) (ho : zKd w o = (ci, N)) (hf : zFr ci k = false) (d : decode cc pc = .ok (.getfield idx, 3)) (h : zRe p l e R s m args below meth c w A cs ss Qe (pc + 3) lv (.int (M o k) :: st) M t) : zRe p l e R s m args below meth c w A cs ss Qe pc lv (.ref (zA w o) :: st) M t :=
  re_getV X B hk L ho (zFv_int hf) d h
theorem re_getR (X : zCx p s m args meth c w A own cc nL ret) {ci N k o idx b : Nat} {C : String} {T : u_T} {ty : Nat → FieldType} (B : zCl ci N C T ty) (hk : k < N) (L : Cond.fieldLink own idx (T k).1 (T k).2.1 (T k).2.2.1 ∈ zW) (ho : zKd w o = (ci, N)) (hf : zFr ci k = true) (hb : zRf o k = b) (d : decode cc pc = .ok (.getfield idx, 3)) (h : zRe p l e R s m args below meth c w A cs ss Qe (pc + 3) lv (.ref (zA w b) :: st) M t) : zRe p l e R s m args below meth c w A cs ss Qe pc lv (.ref (zA w o) :: st) M t :=
  re_getV X B hk L ho ((zFv_ref hf).trans (by rw [hb])) d h
theorem zB_ok {x : Int32} (h : zOk 2 x) : narrow .boolean (.int x) = .int x ∧ fits .boolean (.int x) = true := by
  rcases h with rfl | rfl
  · exact ⟨by decide +kernel, by decide +kernel⟩
  · exact ⟨by decide +kernel, by decide +kernel⟩
theorem re_putV (X : zCx p s m args meth c w A own cc nL ret) {ci N k o idx : Nat} {C : String} {T : u_T} {ty : Nat → FieldType} (B : zCl ci N C T ty) (hk : k < N) (L : Cond.fieldLink own idx (T k).1 (T k).2.1 (T k).2.2.1 ∈ zW) (ho : zKd w o = (ci, N)) (hf : zFr ci k = false) (hfin : (T k).2.2.2 = false) {x : Int32} (hn : narrow (ty k) (.int x) = .int x) (hfit : fits (ty k) (.int x) = true) (d : decode cc pc = .ok (.putfield idx, 3)) (h : ∀ M1, zRe p l e R s m args below meth c w A cs ss Qe (pc + 3) lv st M1 (f M1)) : zRe p l e R s m args below meth c w A cs ss Qe pc lv (.int x :: .ref (zA w o) :: st) M (zLt (zUp M o k x) f) := by
  intro r M' ht H locs ls hR hS hL
  obtain ⟨hx, hb, -, hown, hts, -, -, hKK, hsub⟩ := id X
  obtain ⟨b1, b2, b3, b4, b5⟩ := B
  obtain ⟨hlv, ho0⟩ := zKd_live ho (by omega)
  obtain ⟨pk, hpk⟩ := zLi_mem (zKd0_lt ho0 (by omega)) hlv
  refine va_put hx hb hts b5 ty b3 b4 hown hKK.1 hR (hKK.D hsub M) hS pk (by rw [zWl_get w M hpk, zEn_obj ho0 b2]) b1 k hk (hts _ L) (fun _ q => q) hfin (b3 k hk) hn hfit (by simpa using hk) d (fun H1 locs1 hP1 _ hS1 => ?_)
  rw [zWl_set w M (zUp M o k x) hpk ?_ (fun b hb => zUp_off hb)] at hP1
  · exact h (zUp M o k x) r M' ht H1 locs1 ls hP1 hS1 hL
  · rw [zEn_obj ho0 b2]
    refine congrArg (fun z => (Sum.inr (ci, z) : va_E)) ?_
    apply List.ext_getElem?
    intro i
    rw [List.getElem?_map]
    by_cases hi : i = k
    · subst hi
      rw [List.getElem?_set_self (by simpa using hk), List.getElem?_range hk]
      simp [zFv, hf, zUp]
    · rw [List.getElem?_set_ne (Ne.symm hi), List.getElem?_map]
      by_cases hl : i < N
      · rw [List.getElem?_range hl]
        simp [zFv, zUp, hi]
      · rw [List.getElem?_eq_none (by simpa using hl)]
        rfl
theorem re_putI (X : zCx p s m args meth c w A own cc nL ret) {ci N k o idx : Nat} {C : String} {T : u_T} {ty : Nat → FieldType} (B : zCl ci N C T ty) (hk : k < N) (L : Cond.fieldLink own idx (T k).1 (T k).2.1 (T k).2.2.1 ∈ zW) (ho : zKd w o = (ci, N)) (hf : zFr ci k = false) (hfin : (T k).2.2.2 = false) (hty : ty k = .int) {x : Int32} (d : decode cc pc = .ok (.putfield idx, 3)) (h : ∀ M1, zRe p l e R s m args below meth c w A cs ss Qe (pc + 3) lv st M1 (f M1)) : zRe p l e R s m args below meth c w A cs ss Qe pc lv (.int x :: .ref (zA w o) :: st) M (zLt (zUp M o k x) f) :=
  re_putV X B hk L ho hf hfin (by rw [hty]; rfl) (by rw [hty]; rfl) d h
theorem re_putZ (X : zCx p s m args meth c w A own cc nL ret) {ci N k o idx : Nat} {C : String} {T : u_T} {ty : Nat → FieldType} (B : zCl ci N C T ty) (hk : k < N) (L : Cond.fieldLink own idx (T k).1 (T k).2.1 (T k).2.2.1 ∈ zW) (ho : zKd w o = (ci, N)) (hf : zFr ci k = false) (hfin : (T k).2.2.2 = false) (hty : ty k = .boolean) {x : Int32} (hz : zOk 2 x) (d : decode cc pc = .ok (.putfield idx, 3)) (h : ∀ M1, zRe p l e R s m args below meth c w A cs ss Qe (pc + 3) lv st M1 (f M1)) : zRe p l e R s m args below meth c w A cs ss Qe pc lv (.int x :: .ref (zA w o) :: st) M (zLt (zUp M o k x) f) :=
  re_putV X B hk L ho hf hfin (by rw [hty]; exact (zB_ok hz).1) (by rw [hty]; exact (zB_ok hz).2) d h
/-! arrays -/
theorem re_iald (X : zCx p s m args meth c w A own cc nL ret) {n q : Nat} {i : Int32} {j : Nat} (hq : zKd w q = (12, n)) (hin : zIn i n) (hj : zIx i = j) (d : decode cc pc = .ok (.iaload, 1)) (h : zRe p l e R s m args below meth c w A cs ss Qe (pc + 1) lv (.int (M q j) :: st) M t) : zRe p l e R s m args below meth c w A cs ss Qe pc lv (.int i :: .ref (zA w q) :: st) M t := by
  subst hj
  intro r M' ht H locs ls hR hS hL
  obtain ⟨hlv, hq0⟩ := zKd_live hq (by omega)
  obtain ⟨pk, hpk⟩ := zLi_mem (zKd0_lt hq0 (by omega)) hlv
  exact va_iald X.1 X.2.1 X.kk.1 hR pk 1 (by rw [zWl_get w M hpk, zEn_arr hq0 (by omega) (by omega)]) rfl (zIn_vp hin) d (h r M' ht H locs ls hR hS hL)
theorem re_zald (X : zCx p s m args meth c w A own cc nL ret) {n q : Nat} {i : Int32} {j : Nat} (hq : zKd w q = (13, n)) (hin : zIn i n) (hj : zIx i = j) (d : decode cc pc = .ok (.baload, 1)) (h : zRe p l e R s m args below meth c w A cs ss Qe (pc + 1) lv (.int (M q j) :: st) M t) : zRe p l e R s m args below meth c w A cs ss Qe pc lv (.int i :: .ref (zA w q) :: st) M t := by
  subst hj
  intro r M' ht H locs ls hR hS hL
  obtain ⟨hlv, hq0⟩ := zKd_live hq (by omega)
  obtain ⟨pk, hpk⟩ := zLi_mem (zKd0_lt hq0 (by omega)) hlv
  exact va_zald X.1 X.2.1 X.kk.1 hR pk 2 (by rw [zWl_get w M hpk, zEn_arr hq0 (by omega) (by omega)]) rfl (zIn_vp hin) d (h r M' ht H locs ls hR hS hL)
theorem re_bald (X : zCx p s m args meth c w A own cc nL ret) {n q : Nat} {i : Int32} {j : Nat} (hq : zKd w q = (11, n)) (hin : zIn i n) (hj : zIx i = j) (d : decode cc pc = .ok (.baload, 1)) (h : zRe p l e R s m args below meth c w A cs ss Qe (pc + 1) lv (.int (M q j) :: st) M t) : zRe p l e R s m args below meth c w A cs ss Qe pc lv (.int i :: .ref (zA w q) :: st) M t := by
  subst hj
  intro r M' ht H locs ls hR hS hL
  obtain ⟨hlv, hq0⟩ := zKd_live hq (by omega)
  obtain ⟨pk, hpk⟩ := zLi_mem (zKd0_lt hq0 (by omega)) hlv
  exact va_bald X.1 X.2.1 X.kk.1 hR pk 0 (by rw [zWl_get w M hpk, zEn_arr hq0 (by omega) (by omega)]) rfl (zIn_vp hin) d (h r M' ht H locs ls hR hS hL)
theorem re_aald (X : zCx p s m args meth c w A own cc nL ret) {k n q : Nat} {i : Int32} {j b : Nat} (hq : zKd w q = (k, n)) (h1 : 14 ≤ k ∧ k < 21) (hin : zIn i n) (hj : zIx i = j) (hb : zRf q j = b) (d : decode cc pc = .ok (.aaload, 1)) (h : zRe p l e R s m args below meth c w A cs ss Qe (pc + 1) lv (.ref (zA w b) :: st) M t) : zRe p l e R s m args below meth c w A cs ss Qe pc lv (.int i :: .ref (zA w q) :: st) M t := by
  subst hj
  subst hb
  intro r M' ht H locs ls hR hS hL
  obtain ⟨hlv, hq0⟩ := zKd_live hq h1.2
  obtain ⟨pk, hpk⟩ := zLi_mem (zKd0_lt hq0 h1.2) hlv
  have hP := hR pk _ (zWl_get w M hpk)
  rw [zEn_rows hq0 h1.1] at hP
  have hP : H[zA w q]? = some (arrV (zC w (zAk k)) n (fun j => va_rf (some (zA w (zRf q j))))) := hP
  have hv := zIn_vp hin
  have hz : (zIx i) < n := by
    have := hv
    simp only [vp_in, not_or, Nat.not_le] at this
    exact this.2
  obtain ⟨ty, hty, hA⟩ : ∃ ty : FieldType, ty.isReference = true ∧ ArrOfT s (zC w (zAk k)) ty := by
    have hK := X.kk.1
    by_cases hk : k = 15 ∨ k = 17 ∨ k = 20
    · rw [zAk, if_pos hk]; exact ⟨_, rfl, (hK.2 4 _ rfl).1⟩
    · rw [zAk, if_neg hk]; exact ⟨_, rfl, (hK.2 3 _ rfl).1⟩
  refine W.aald X.1 X.2.1 (v := .ref (zA w (zRf q (zIx i)))) hP (hA n _) hty (fun q => by cases q) (by rw [arrV_size]; exact hv) ?_ rfl rfl d (h r M' ht H locs ls hR hS hL)
  rw [arrV_read _ _ hz]
  rfl
theorem zArr_set {k n q pk : Nat} {j : Nat} {x : Int32} (hpk : (zLi w)[pk]? = some q) (hq : zKd0 q = (k, n)) (h1 : 11 ≤ k) (h2 : k < 14) : (zWl w M).set pk (zA w q, .inl (zC w k, n, .inl (upd (M q) j x))) = zWl w (zUp M q j x) :=
  zWl_set w M (zUp M q j x) hpk (by rw [zEn_arr hq h1 h2, zUp_row]) (fun _ hb => zUp_off hb)
theorem re_iast (X : zCx p s m args meth c w A own cc nL ret) {n q : Nat} {i x : Int32} {j : Nat} (hq : zKd w q = (12, n)) (hin : zIn i n) (hj : zIx i = j) (d : decode cc pc = .ok (.iastore, 1)) (h : ∀ M1, zRe p l e R s m args below meth c w A cs ss Qe (pc + 1) lv st M1 (f M1)) : zRe p l e R s m args below meth c w A cs ss Qe pc lv (.int x :: .int i :: .ref (zA w q) :: st) M (zLt (zUp M q j x) f) := by
  subst hj
  intro r M' ht H locs ls hR hS hL
  obtain ⟨hlv, hq0⟩ := zKd_live hq (by omega)
  obtain ⟨pk, hpk⟩ := zLi_mem (zKd0_lt hq0 (by omega)) hlv
  have hKK := X.kk
  refine va_iast X.1 X.2.1 hKK.1 hR (X.D M) hS pk 1 (by rw [zWl_get w M hpk, zEn_arr hq0 (by omega) (by omega)]) rfl (zIn_vp hin) d (fun H1 locs1 hP1 _ hS1 => ?_)
  rw [zArr_set hpk hq0 (by omega) (by omega)] at hP1
  exact h _ r M' ht H1 locs1 ls hP1 hS1 hL
theorem re_zast (X : zCx p s m args meth c w A own cc nL ret) {n q : Nat} {i x v : Int32} {j : Nat} (hq : zKd w q = (13, n)) (hin : zIn i n) (hj : zIx i = j) (hv : vp_nar .boolean x = v) (d : decode cc pc = .ok (.bastore, 1)) (h : ∀ M1, zRe p l e R s m args below meth c w A cs ss Qe (pc + 1) lv st M1 (f M1)) : zRe p l e R s m args below meth c w A cs ss Qe pc lv (.int x :: .int i :: .ref (zA w q) :: st) M (zLt (zUp M q j v) f) := by
  subst hj
  intro r M' ht H locs ls hR hS hL
  obtain ⟨hlv, hq0⟩ := zKd_live hq (by omega)
  obtain ⟨pk, hpk⟩ := zLi_mem (zKd0_lt hq0 (by omega)) hlv
  have hKK := X.kk
  refine va_zast X.1 X.2.1 hKK.1 hR (X.D M) hS pk 2 (by rw [zWl_get w M hpk, zEn_arr hq0 (by omega) (by omega)]) rfl (zIn_vp hin) d (fun H1 locs1 hP1 _ hS1 => ?_)
  rw [zArr_set hpk hq0 (by omega) (by omega), hv] at hP1
  exact h _ r M' ht H1 locs1 ls hP1 hS1 hL
theorem re_bast (X : zCx p s m args meth c w A own cc nL ret) {n q : Nat} {i x v : Int32} {j : Nat} (hq : zKd w q = (11, n)) (hin : zIn i n) (hj : zIx i = j) (hv : vp_nar .byte x = v) (d : decode cc pc = .ok (.bastore, 1)) (h : ∀ M1, zRe p l e R s m args below meth c w A cs ss Qe (pc + 1) lv st M1 (f M1)) : zRe p l e R s m args below meth c w A cs ss Qe pc lv (.int x :: .int i :: .ref (zA w q) :: st) M (zLt (zUp M q j v) f) := by
  subst hj
  intro r M' ht H locs ls hR hS hL
  obtain ⟨hlv, hq0⟩ := zKd_live hq (by omega)
  obtain ⟨pk, hpk⟩ := zLi_mem (zKd0_lt hq0 (by omega)) hlv
  have hKK := X.kk
  refine va_bast X.1 X.2.1 hKK.1 hR (X.D M) hS pk 0 (by rw [zWl_get w M hpk, zEn_arr hq0 (by omega) (by omega)]) rfl (zIn_vp hin) d (fun H1 locs1 hP1 _ hS1 => ?_)
  rw [zArr_set hpk hq0 (by omega) (by omega), hv] at hP1
  exact h _ r M' ht H1 locs1 ls hP1 hS1 hL
theorem zNar_b {x : Int32} (h : zOk 2 x) : vp_nar .boolean x = x := by
  simp only [vp_nar, (zB_ok h).1]
/-! ends -/
theorem re_iret (X : zCx p s m args meth c w (zFree w) own cc nL (some .int)) {x : Int32} (d : decode cc pc = .ok (.ireturn, 1)) : zRm p l e R s m args below meth c w 1 pc lv [.int x] M (some (x, M)) := by
  intro r M' ht H locs ls hR hS hL
  cases ht
  have hlocks := X.locks
  exact W.iret X.1 X.2.1 X.rt (fun t ht hW => ⟨rfl, trivial, by rw [ht]; exact hR, hS.F ht⟩) hS.2.2 d
theorem re_zret (X : zCx p s m args meth c w (zFree w) own cc nL (some .boolean)) {x : Int32} (hz : zOk 2 x) (d : decode cc pc = .ok (.ireturn, 1)) : zRm p l e R s m args below meth c w 2 pc lv [.int x] M (some (x, M)) := by
  intro r M' ht H locs ls hR hS hL
  cases ht
  have hlocks := X.locks
  exact W.zret X.1 X.2.1 X.rt (zB_ok hz).1 (fun t ht hW => ⟨rfl, hz, by rw [ht]; exact hR, hS.F ht⟩) hS.2.2 d
theorem re_vret (X : zCx p s m args meth c w (zFree w) own cc nL none) (d : decode cc pc = .ok (.return_, 1)) : zRm p l e R s m args below meth c w 0 pc lv [] M (some (0, M)) := by
  intro r M' ht H locs ls hR hS hL
  cases ht
  have hlocks := X.locks
  exact W.vret X.1 X.2.1 X.rt (fun t ht hW => ⟨rfl, trivial, by rw [ht]; exact hR, hS.F ht⟩) hS.2.2 d
end ZR2
end
section
section ZR3
variable {p : Program} {l : Launch} {e : Env} {R : Room} {s : State} {m : MethodId} {args : Array Value} {below : List Frame} {meth : Method} {c : Code} {w : zWD} {A : Nat → Prop} {cs ss : Nat} {Qe : Int32 → zMem → State → Prop} {own : String} {cc : ByteArray} {nL : Nat} {ret : Option FieldType} {pc : Nat} {lv lv' : List (Option Value)} {st st0 : List Value} {M : zMem} {t u : zTr} {f : zMem → zTr} {g : Int32 → zMem → zTr}
/-! calls -/
theorem re_run {H : Heap} {locs : List Loc} {Q : State → Prop} {ls : Array Slot} {k : Nat} {r : Int32} {M1 : zMem} {a : Array Value} (hr : va_Run p l e R s m args below meth c H locs cs ss 0 0 (F0 m pc ls st0) st (zQc w k r M1 a) (zFree w)) (hS : va_S A s.heap H locs) (hsub : ∀ q, zFree w q → A q)
    (kk : ∀ (H1 : Heap) (locs1 : List Loc), zOk k r → zRep w M1 H1 → va_S A s.heap H1 locs1 → W p l e R s m args below meth c H1 locs1 cs ss Q (F0 m (pc + 3) ls ((zRv w k r).toList ++ st))) : W p l e R s m args below meth c H locs cs ss Q (F0 m pc ls st0) := by
  intro T hT X
  obtain ⟨v, st₀, t, T', L, h0, X', hL, e1, e2, ⟨hv, hok, hR, hz, hk⟩, stp⟩ := hr T hT X
  cases hv
  rw [h0] at hz hk
  have hR : zRep w M1 T'.heap := by rw [e1]; exact hR
  obtain ⟨t2, a1, b1⟩ := kk T'.heap (locs ++ L) hok hR
    ⟨Nat.le_trans hS.1 (by rw [e1]; exact hz), fun q h1 h2 => by rw [e1, hk q (Nat.lt_of_lt_of_le h1 hS.1) (fun z => h2 (hsub q z))]; exact hS.2.1 q h1 h2, fun q hq => by
      rcases List.mem_append.mp hq with h | h
      · exact hS.2.2 q h
      · exact hsub _ (hL q h)⟩ T' rfl X'
  exact ⟨t2, stp t2 a1, b1⟩
/-- what a call rests on: the callee's names, and its room -/
def zCa (y : MethodName) (bytes : ByteArray) (maxL : Nat) (ret' : Option FieldType) (rm R : Room) (n : Nat) : Prop :=
  Cond.code y bytes maxL ret' ∈ zW ∧ Cond.initialized y.cls ∈ zW ∧ (y.cls ≠ "java/lang/invoke/MethodHandle" ∧ y.cls ≠ "java/lang/invoke/VarHandle" ∧ (parseMethodDescriptor y.desc).map (fun d => d.parameters.length) = some n) ∧ rm.cells = 0 ∧ rm.slots = 0 ∧ rm.frames + 1 ≤ R.frames ∧ 8 + (maxL + 11) + rm.locals ≤ R.locals
theorem zCa.good {y : MethodName} {bytes : ByteArray} {maxL : Nat} {ret' : Option FieldType} (h : Cond.code y bytes maxL ret' ∈ zW) : GoodIn zW (Cond.code y bytes maxL ret' :: zW) := fun w hw => by
  rcases List.mem_cons.mp hw with rfl | hw
  · exact ⟨h, zW_good _ h⟩
  · exact ⟨hw, zW_good _ hw⟩
theorem zBlind {av : List Value} {M : zMem} : FrameBlind (zPc w av M) := fun a U g mk h => ⟨h.1, h.2.1, zKK.same (u := U) (U := U.calling g mk a) rfl rfl h.2.2⟩
theorem zPre (X : zCx p s m args meth c w A own cc nL ret) {H : Heap} {locs : List Loc} {av : List Value} (hR : zRep w M H) (hS : va_S A s.heap H locs) : ∀ U : State, U.heap = H → s.WarmedH U.vm → zPc w av M av.toArray U :=
  fun U hU hW => ⟨rfl, by rw [hU]; exact hR, (zKK.go hW hS hU X.kk).narrow X.sub⟩
theorem zFix (X : zCx p s m args meth c w A own cc nL ret) : CallFix p m c cc nL s args zW own := ⟨X.1, X.2.1, X.2.2.1, X.ow, X.ts⟩
theorem zB {y : MethodName} {bytes : ByteArray} {maxL n idx : Nat} {ret' : Option FieldType} {rm : Room} (X : zCx p s m args meth c w A own cc nL ret) (A : zCa y bytes maxL ret' rm R n) (L : Cond.methodLink own idx y ∈ zW) : CallB R s args own idx y bytes maxL ret' (Cond.code y bytes maxL ret' :: zW) rm 0 0 n := by
  obtain ⟨a1, a2, a3, a4, a5, a6, a7⟩ := A
  exact callB_of n X.ts (zCa.good a1) rfl a4 a5 (X.ts _ a2) (X.ts _ L) a3 ⟨a6, a7⟩
theorem zRec (X : zCx p s m args meth c w A own cc nL ret) {H : Heap} {ci N o : Nat} {C : String} {T : u_T} {ty : Nat → FieldType} (B : zCl ci N C T ty) (ho : zKd w o = (ci, N)) (hR : zRep w M H) : ∃ cellB : Cell, H[zA w o]? = some cellB ∧ cellB.vm.isStatics = false ∧ s.vm.findClass C = some cellB.cls := by
  have b2 := B.2.1
  obtain ⟨hlv, ho0⟩ := zKd_live ho (by omega)
  obtain ⟨pk, hpk⟩ := zLi_mem (zKd0_lt ho0 (by omega)) hlv
  have hP := hR pk _ (zWl_get w M hpk)
  rw [zEn_obj ho0 b2] at hP
  obtain ⟨r, h1, cell, h2, h3, h4, -⟩ := hP
  have hr : r = (C, T, N) := Option.some.inj (h1.symm.trans B.1)
  subst hr
  refine ⟨cell, h2, by rw [h4]; rfl, ?_⟩
  rw [h3]
  exact (X.kk.1.1 ci _ B.1).2.1
theorem re_callV (X : zCx p s m args meth c w A own cc nL ret) {y : MethodName} {bytes : ByteArray} {maxL n idx k : Nat} {ret' : Option FieldType} {rm : Room} {ci N o : Nat} {T : u_T} {ty : Nat → FieldType} {As : List Value} (hM : zMt l w y bytes maxL ret' rm k (.ref (zA w o) :: As) f) (A : zCa y bytes maxL ret' rm R n) (L : Cond.methodLink own idx y ∈ zW) (I : Cond.instanceMethod y ∈ zW) (S : Cond.selects y.cls y y ∈ zW) (B : zCl ci N y.cls T ty) (ho : zKd w o = (ci, N))
    (hn : As.length = n) (hlen : lv.length = nL) (hst : st0 = As.reverse ++ .ref (zA w o) :: st) (hroom : (st.map fun v => v.category).sum ≤ 8) (hcs : cs ≤ R.cells ∧ ss ≤ R.slots) (d : decode cc pc = .ok (.invokevirtual idx, 3)) (h : ∀ r M1, zOk k r → zRe p l e R s m args below meth c w A cs ss Qe (pc + 3) lv ((zRv w k r).toList ++ st) M1 (g r M1)) : zRe p l e R s m args below meth c w A cs ss Qe pc lv st0 M (zBd (f M) g) := by
  intro r M' ht H locs ls hR hS hL
  cases hf : f M with
  | none => rw [hf] at ht; cases ht
  | some q =>
    obtain ⟨r1, M1⟩ := q
    rw [hf] at ht
    subst hst
    refine re_run (va_runV (As := As) (rest := st) (zFix X) (hM M r1 M1 hf) ⟨zB X A L, X.ts _ I, X.ts _ S⟩ ⟨zBlind, zRec X B ho hR, zPre X hR hS⟩ rfl hn (hL.1.trans hlen) rfl (lv_room hroom) d hcs) hS X.sub (fun H1 locs1 hok hR1 hS1 => h r1 M1 hok r M' ht H1 locs1 ls hR1 hS1 hL)
theorem re_callS (X : zCx p s m args meth c w A own cc nL ret) {y : MethodName} {bytes : ByteArray} {maxL n idx k : Nat} {ret' : Option FieldType} {rm : Room} {As : List Value} (hM : zMt l w y bytes maxL ret' rm k As f) (A : zCa y bytes maxL ret' rm R n) (L : Cond.methodLink own idx y ∈ zW) (I : Cond.static y ∈ zW)
    (hn : As.length = n) (hlen : lv.length = nL) (hst : st0 = As.reverse ++ st) (hroom : (st.map fun v => v.category).sum ≤ 8) (hcs : cs ≤ R.cells ∧ ss ≤ R.slots) (d : decode cc pc = .ok (.invokestatic idx, 3)) (h : ∀ r M1, zOk k r → zRe p l e R s m args below meth c w A cs ss Qe (pc + 3) lv ((zRv w k r).toList ++ st) M1 (g r M1)) : zRe p l e R s m args below meth c w A cs ss Qe pc lv st0 M (zBd (f M) g) := by
  intro r M' ht H locs ls hR hS hL
  cases hf : f M with
  | none => rw [hf] at ht; cases ht
  | some q =>
    obtain ⟨r1, M1⟩ := q
    rw [hf] at ht
    subst hst
    refine re_run (va_runS (As := As) (rest := st) (zFix X) (hM M r1 M1 hf) ⟨zB X A L, X.ts _ I⟩ ⟨zBlind, zPre X hR hS⟩ rfl hn (hL.1.trans hlen) rfl (lv_room hroom) d hcs) hS X.sub (fun H1 locs1 hok hR1 hS1 => h r1 M1 hok r M' ht H1 locs1 ls hR1 hS1 hL)
/-- a private static of the nest's host -/
theorem re_callN (X : zCx p s m args meth c w A own cc nL ret) {y : MethodName} {bytes : ByteArray} {maxL n idx k : Nat} {ret' : Option FieldType} {rm : Room} {As : List Value} {host : String} (hM : zMt l w y bytes maxL ret' rm k As f) (A : zCa y bytes maxL ret' rm R n) (L : (own, idx, y, host) ∈ zNw) (I : Cond.static y ∈ zW)
    (hn : As.length = n) (hlen : lv.length = nL) (hst : st0 = As.reverse ++ st) (hroom : (st.map fun v => v.category).sum ≤ 8) (hcs : cs ≤ R.cells ∧ ss ≤ R.slots) (d : decode cc pc = .ok (.invokestatic idx, 3)) (h : ∀ r M1, zOk k r → zRe p l e R s m args below meth c w A cs ss Qe (pc + 3) lv ((zRv w k r).toList ++ st) M1 (g r M1)) : zRe p l e R s m args below meth c w A cs ss Qe pc lv st0 M (zBd (f M) g) := by
  intro r M' ht H locs ls hR hS hL
  cases hf : f M with
  | none => rw [hf] at ht; cases ht
  | some q =>
    obtain ⟨r1, M1⟩ := q
    rw [hf] at ht
    subst hst
    obtain ⟨a1, a2, a3, a4, a5, a6, a7⟩ := A
    refine re_run (va_runSN (As := As) (rest := st) (zFix X) (hM M r1 M1 hf) ⟨va_cnB (host := host) n X.ts (zCa.good a1) rfl a4 a5 (X.kk.nw _ L) (X.ts _ a2) a3 ⟨a6, a7⟩, X.ts _ I, trivial⟩ ⟨zBlind, zPre X hR hS⟩ rfl hn (hL.1.trans hlen) rfl (lv_room hroom) d hcs) hS X.sub (fun H1 locs1 hok hR1 hS1 => h r1 M1 hok r M' ht H1 locs1 ls hR1 hS1 hL)
theorem re_callVv (X : zCx p s m args meth c w A own cc nL ret) {y : MethodName} {bytes : ByteArray} {maxL n idx : Nat} {ret' : Option FieldType} {rm : Room} {ci N o : Nat} {T : u_T} {ty : Nat → FieldType} {As : List Value} (hM : zMt l w y bytes maxL ret' rm 0 (.ref (zA w o) :: As) f) (A : zCa y bytes maxL ret' rm R n) (L : Cond.methodLink own idx y ∈ zW) (I : Cond.instanceMethod y ∈ zW) (S : Cond.selects y.cls y y ∈ zW) (B : zCl ci N y.cls T ty) (ho : zKd w o = (ci, N))
    (hn : As.length = n) (hlen : lv.length = nL) (hst : st0 = As.reverse ++ .ref (zA w o) :: st) (hroom : (st.map fun v => v.category).sum ≤ 8) (hcs : cs ≤ R.cells ∧ ss ≤ R.slots) (d : decode cc pc = .ok (.invokevirtual idx, 3)) (h : ∀ r M1, zOk 0 r → zRe p l e R s m args below meth c w A cs ss Qe (pc + 3) lv st M1 (g r M1)) : zRe p l e R s m args below meth c w A cs ss Qe pc lv st0 M (zBd (f M) g) :=
  re_callV X hM A L I S B ho hn hlen hst hroom hcs d h
theorem re_callVi (X : zCx p s m args meth c w A own cc nL ret) {y : MethodName} {bytes : ByteArray} {maxL n idx : Nat} {ret' : Option FieldType} {rm : Room} {ci N o : Nat} {T : u_T} {ty : Nat → FieldType} {As : List Value} (hM : zMt l w y bytes maxL ret' rm 1 (.ref (zA w o) :: As) f) (A : zCa y bytes maxL ret' rm R n) (L : Cond.methodLink own idx y ∈ zW) (I : Cond.instanceMethod y ∈ zW) (S : Cond.selects y.cls y y ∈ zW) (B : zCl ci N y.cls T ty) (ho : zKd w o = (ci, N))
    (hn : As.length = n) (hlen : lv.length = nL) (hst : st0 = As.reverse ++ .ref (zA w o) :: st) (hroom : (st.map fun v => v.category).sum ≤ 8) (hcs : cs ≤ R.cells ∧ ss ≤ R.slots) (d : decode cc pc = .ok (.invokevirtual idx, 3)) (h : ∀ r M1, zOk 1 r → zRe p l e R s m args below meth c w A cs ss Qe (pc + 3) lv (.int r :: st) M1 (g r M1)) : zRe p l e R s m args below meth c w A cs ss Qe pc lv st0 M (zBd (f M) g) :=
  re_callV X hM A L I S B ho hn hlen hst hroom hcs d h
theorem re_callVz (X : zCx p s m args meth c w A own cc nL ret) {y : MethodName} {bytes : ByteArray} {maxL n idx : Nat} {ret' : Option FieldType} {rm : Room} {ci N o : Nat} {T : u_T} {ty : Nat → FieldType} {As : List Value} (hM : zMt l w y bytes maxL ret' rm 2 (.ref (zA w o) :: As) f) (A : zCa y bytes maxL ret' rm R n) (L : Cond.methodLink own idx y ∈ zW) (I : Cond.instanceMethod y ∈ zW) (S : Cond.selects y.cls y y ∈ zW) (B : zCl ci N y.cls T ty) (ho : zKd w o = (ci, N))
    (hn : As.length = n) (hlen : lv.length = nL) (hst : st0 = As.reverse ++ .ref (zA w o) :: st) (hroom : (st.map fun v => v.category).sum ≤ 8) (hcs : cs ≤ R.cells ∧ ss ≤ R.slots) (d : decode cc pc = .ok (.invokevirtual idx, 3)) (h : ∀ r M1, zOk 2 r → zRe p l e R s m args below meth c w A cs ss Qe (pc + 3) lv (.int r :: st) M1 (g r M1)) : zRe p l e R s m args below meth c w A cs ss Qe pc lv st0 M (zBd (f M) g) :=
  re_callV X hM A L I S B ho hn hlen hst hroom hcs d h
theorem re_callVs (X : zCx p s m args meth c w A own cc nL ret) {y : MethodName} {bytes : ByteArray} {maxL n idx : Nat} {ret' : Option FieldType} {rm : Room} {ci N o : Nat} {T : u_T} {ty : Nat → FieldType} {As : List Value} (hM : zMt l w y bytes maxL ret' rm 3 (.ref (zA w o) :: As) f) (A : zCa y bytes maxL ret' rm R n) (L : Cond.methodLink own idx y ∈ zW) (I : Cond.instanceMethod y ∈ zW) (S : Cond.selects y.cls y y ∈ zW) (B : zCl ci N y.cls T ty) (ho : zKd w o = (ci, N))
    (hn : As.length = n) (hlen : lv.length = nL) (hst : st0 = As.reverse ++ .ref (zA w o) :: st) (hroom : (st.map fun v => v.category).sum ≤ 8) (hcs : cs ≤ R.cells ∧ ss ≤ R.slots) (d : decode cc pc = .ok (.invokevirtual idx, 3)) (h : ∀ r M1, zOk 3 r → zRe p l e R s m args below meth c w A cs ss Qe (pc + 3) lv (.ref (zK w (zIx r)) :: st) M1 (g r M1)) : zRe p l e R s m args below meth c w A cs ss Qe pc lv st0 M (zBd (f M) g) :=
  re_callV X hM A L I S B ho hn hlen hst hroom hcs d h
theorem re_callSv (X : zCx p s m args meth c w A own cc nL ret) {y : MethodName} {bytes : ByteArray} {maxL n idx : Nat} {ret' : Option FieldType} {rm : Room} {As : List Value} (hM : zMt l w y bytes maxL ret' rm 0 As f) (A : zCa y bytes maxL ret' rm R n) (L : Cond.methodLink own idx y ∈ zW) (I : Cond.static y ∈ zW)
    (hn : As.length = n) (hlen : lv.length = nL) (hst : st0 = As.reverse ++ st) (hroom : (st.map fun v => v.category).sum ≤ 8) (hcs : cs ≤ R.cells ∧ ss ≤ R.slots) (d : decode cc pc = .ok (.invokestatic idx, 3)) (h : ∀ r M1, zOk 0 r → zRe p l e R s m args below meth c w A cs ss Qe (pc + 3) lv st M1 (g r M1)) : zRe p l e R s m args below meth c w A cs ss Qe pc lv st0 M (zBd (f M) g) :=
  re_callS X hM A L I hn hlen hst hroom hcs d h
theorem re_callSi (X : zCx p s m args meth c w A own cc nL ret) {y : MethodName} {bytes : ByteArray} {maxL n idx : Nat} {ret' : Option FieldType} {rm : Room} {As : List Value} (hM : zMt l w y bytes maxL ret' rm 1 As f) (A : zCa y bytes maxL ret' rm R n) (L : Cond.methodLink own idx y ∈ zW) (I : Cond.static y ∈ zW)
    (hn : As.length = n) (hlen : lv.length = nL) (hst : st0 = As.reverse ++ st) (hroom : (st.map fun v => v.category).sum ≤ 8) (hcs : cs ≤ R.cells ∧ ss ≤ R.slots) (d : decode cc pc = .ok (.invokestatic idx, 3)) (h : ∀ r M1, zOk 1 r → zRe p l e R s m args below meth c w A cs ss Qe (pc + 3) lv (.int r :: st) M1 (g r M1)) : zRe p l e R s m args below meth c w A cs ss Qe pc lv st0 M (zBd (f M) g) :=
  re_callS X hM A L I hn hlen hst hroom hcs d h
theorem re_callSz (X : zCx p s m args meth c w A own cc nL ret) {y : MethodName} {bytes : ByteArray} {maxL n idx : Nat} {ret' : Option FieldType} {rm : Room} {As : List Value} (hM : zMt l w y bytes maxL ret' rm 2 As f) (A : zCa y bytes maxL ret' rm R n) (L : Cond.methodLink own idx y ∈ zW) (I : Cond.static y ∈ zW)
    (hn : As.length = n) (hlen : lv.length = nL) (hst : st0 = As.reverse ++ st) (hroom : (st.map fun v => v.category).sum ≤ 8) (hcs : cs ≤ R.cells ∧ ss ≤ R.slots) (d : decode cc pc = .ok (.invokestatic idx, 3)) (h : ∀ r M1, zOk 2 r → zRe p l e R s m args below meth c w A cs ss Qe (pc + 3) lv (.int r :: st) M1 (g r M1)) : zRe p l e R s m args below meth c w A cs ss Qe pc lv st0 M (zBd (f M) g) :=
  re_callS X hM A L I hn hlen hst hroom hcs d h
theorem re_callSs (X : zCx p s m args meth c w A own cc nL ret) {y : MethodName} {bytes : ByteArray} {maxL n idx : Nat} {ret' : Option FieldType} {rm : Room} {As : List Value} (hM : zMt l w y bytes maxL ret' rm 3 As f) (A : zCa y bytes maxL ret' rm R n) (L : Cond.methodLink own idx y ∈ zW) (I : Cond.static y ∈ zW)
    (hn : As.length = n) (hlen : lv.length = nL) (hst : st0 = As.reverse ++ st) (hroom : (st.map fun v => v.category).sum ≤ 8) (hcs : cs ≤ R.cells ∧ ss ≤ R.slots) (d : decode cc pc = .ok (.invokestatic idx, 3)) (h : ∀ r M1, zOk 3 r → zRe p l e R s m args below meth c w A cs ss Qe (pc + 3) lv (.ref (zK w (zIx r)) :: st) M1 (g r M1)) : zRe p l e R s m args below meth c w A cs ss Qe pc lv st0 M (zBd (f M) g) :=
  re_callS X hM A L I hn hlen hst hroom hcs d h
theorem re_callNv (X : zCx p s m args meth c w A own cc nL ret) {y : MethodName} {bytes : ByteArray} {maxL n idx : Nat} {ret' : Option FieldType} {rm : Room} {As : List Value} {host : String} (hM : zMt l w y bytes maxL ret' rm 0 As f) (A : zCa y bytes maxL ret' rm R n) (L : (own, idx, y, host) ∈ zNw) (I : Cond.static y ∈ zW)
    (hn : As.length = n) (hlen : lv.length = nL) (hst : st0 = As.reverse ++ st) (hroom : (st.map fun v => v.category).sum ≤ 8) (hcs : cs ≤ R.cells ∧ ss ≤ R.slots) (d : decode cc pc = .ok (.invokestatic idx, 3)) (h : ∀ r M1, zOk 0 r → zRe p l e R s m args below meth c w A cs ss Qe (pc + 3) lv st M1 (g r M1)) : zRe p l e R s m args below meth c w A cs ss Qe pc lv st0 M (zBd (f M) g) :=
  re_callN X hM A L I hn hlen hst hroom hcs d h
theorem re_callNi (X : zCx p s m args meth c w A own cc nL ret) {y : MethodName} {bytes : ByteArray} {maxL n idx : Nat} {ret' : Option FieldType} {rm : Room} {As : List Value} {host : String} (hM : zMt l w y bytes maxL ret' rm 1 As f) (A : zCa y bytes maxL ret' rm R n) (L : (own, idx, y, host) ∈ zNw) (I : Cond.static y ∈ zW)
    (hn : As.length = n) (hlen : lv.length = nL) (hst : st0 = As.reverse ++ st) (hroom : (st.map fun v => v.category).sum ≤ 8) (hcs : cs ≤ R.cells ∧ ss ≤ R.slots) (d : decode cc pc = .ok (.invokestatic idx, 3)) (h : ∀ r M1, zOk 1 r → zRe p l e R s m args below meth c w A cs ss Qe (pc + 3) lv (.int r :: st) M1 (g r M1)) : zRe p l e R s m args below meth c w A cs ss Qe pc lv st0 M (zBd (f M) g) :=
  re_callN X hM A L I hn hlen hst hroom hcs d h
theorem re_callNz (X : zCx p s m args meth c w A own cc nL ret) {y : MethodName} {bytes : ByteArray} {maxL n idx : Nat} {ret' : Option FieldType} {rm : Room} {As : List Value} {host : String} (hM : zMt l w y bytes maxL ret' rm 2 As f) (A : zCa y bytes maxL ret' rm R n) (L : (own, idx, y, host) ∈ zNw) (I : Cond.static y ∈ zW)
    (hn : As.length = n) (hlen : lv.length = nL) (hst : st0 = As.reverse ++ st) (hroom : (st.map fun v => v.category).sum ≤ 8) (hcs : cs ≤ R.cells ∧ ss ≤ R.slots) (d : decode cc pc = .ok (.invokestatic idx, 3)) (h : ∀ r M1, zOk 2 r → zRe p l e R s m args below meth c w A cs ss Qe (pc + 3) lv (.int r :: st) M1 (g r M1)) : zRe p l e R s m args below meth c w A cs ss Qe pc lv st0 M (zBd (f M) g) :=
  re_callN X hM A L I hn hlen hst hroom hcs d h
theorem re_callNs (X : zCx p s m args meth c w A own cc nL ret) {y : MethodName} {bytes : ByteArray} {maxL n idx : Nat} {ret' : Option FieldType} {rm : Room} {As : List Value} {host : String} (hM : zMt l w y bytes maxL ret' rm 3 As f) (A : zCa y bytes maxL ret' rm R n) (L : (own, idx, y, host) ∈ zNw) (I : Cond.static y ∈ zW)
    (hn : As.length = n) (hlen : lv.length = nL) (hst : st0 = As.reverse ++ st) (hroom : (st.map fun v => v.category).sum ≤ 8) (hcs : cs ≤ R.cells ∧ ss ≤ R.slots) (d : decode cc pc = .ok (.invokestatic idx, 3)) (h : ∀ r M1, zOk 3 r → zRe p l e R s m args below meth c w A cs ss Qe (pc + 3) lv (.ref (zK w (zIx r)) :: st) M1 (g r M1)) : zRe p l e R s m args below meth c w A cs ss Qe pc lv st0 M (zBd (f M) g) :=
  re_callN X hM A L I hn hlen hst hroom hcs d h
/-! text constants -/
theorem re_ldcS (X : zCx p s m args meth c w A own cc nL ret) {i k : Nat} {tx : String} (hc : (own, i, tx, k) ∈ zSt) (d : decode cc pc = .ok (.ldc i, 2)) (h : zRe p l e R s m args below meth c w A cs ss Qe (pc + 2) lv (.ref (zK w k) :: st) M t) : zRe p l e R s m args below meth c w A cs ss Qe pc lv st M t :=
  fun r M' ht H locs ls hR hS hL => va_ldcS X.1 X.2.1 X.ow (X.kk.st _ hc) d (h r M' ht H locs ls hR hS hL)
theorem re_sret (X : zCx p s m args meth c w (zFree w) own cc nL (some (.object "java/lang/String"))) {k : Nat} {x : Int32} (hx : zIx x = k) (hk : k < zNS) (d : decode cc pc = .ok (.areturn, 1)) : zRm p l e R s m args below meth c w 3 pc lv [.ref (zK w k)] M (some (x, M)) := by
  intro r M' ht H locs ls hR hS hL
  cases ht
  subst hx
  have hlocks := X.locks
  exact W.aret X.1 X.2.1 X.rt (Or.inl ⟨_, rfl⟩) (Or.inr ⟨_, rfl⟩) (fun t ht hW => ⟨rfl, hk, by rw [ht]; exact hR, hS.F ht⟩) hS.2.2 d
/-! switches -/
theorem re_sw_in (X : zCx p s m args meth c w A own cc nL ret) {dflt lo hi off : Int} {offs : Array Int} {len tgt : Nat} {x v : Int32} (d : decode cc pc = .ok (.tableswitch dflt lo hi offs, len)) (hx : x = v) (h1 : ¬ v.toInt < lo) (h2 : ¬ hi < v.toInt) (ho : offs[(v.toInt - lo).toNat]? = some off) (hg : (pc : Int) + off = (tgt : Int)) (h : zRe p l e R s m args below meth c w A cs ss Qe tgt lv st M t) : zRe p l e R s m args below meth c w A cs ss Qe pc lv (.int x :: st) M t := by
  subst hx
  exact fun r M' ht H locs ls hR hS hL => lv_tableIn X.1 X.2.1 d h1 h2 ho hg (h r M' ht H locs ls hR hS hL)
theorem re_sw_out (X : zCx p s m args meth c w A own cc nL ret) {dflt lo hi : Int} {offs : Array Int} {len tgt : Nat} {x : Int32} (d : decode cc pc = .ok (.tableswitch dflt lo hi offs, len)) (hx : x.toInt < lo ∨ hi < x.toInt) (hg : (pc : Int) + dflt = (tgt : Int)) (h : zRe p l e R s m args below meth c w A cs ss Qe tgt lv st M t) : zRe p l e R s m args below meth c w A cs ss Qe pc lv (.int x :: st) M t :=
  fun r M' ht H locs ls hR hS hL => lv_tableOut X.1 X.2.1 d hx hg (h r M' ht H locs ls hR hS hL)
theorem re_lsw (X : zCx p s m args meth c w A own cc nL ret) {dflt off : Int} {ps : Array (Int × Int)} {len tgt : Nat} {x : Int32} (d : decode cc pc = .ok (.lookupswitch dflt ps, len)) (hp : (ps.toList.zip (ps.toList.drop 1)).all (fun (a, next) => a.1 < next.1) = true) (ho : Op.lookupswitch.offset ps.toList dflt x.toInt = off) (hg : (pc : Int) + off = (tgt : Int)) (h : zRe p l e R s m args below meth c w A cs ss Qe tgt lv st M t) : zRe p l e R s m args below meth c w A cs ss Qe pc lv (.int x :: st) M t :=
  fun r M' ht H locs ls hR hS hL => lv_lookup X.1 X.2.1 d hp ho hg (h r M' ht H locs ls hR hS hL)
theorem zRo {R : Room} : 0 ≤ R.cells ∧ 0 ≤ R.slots := ⟨Nat.zero_le _, Nat.zero_le _⟩
theorem zIx_lt {i : Int32} {n : Nat} (h : zIn i n) : zIx i < n := by
  have := zIn_vp h
  simp only [vp_in, not_or, Nat.not_le] at this
  exact this.2
/-- how often a loop may go round -/
def zFu : Nat := 2000
theorem re_if {q : Prop} [Decidable q] (h1 : q → zRe p l e R s m args below meth c w A cs ss Qe pc lv st M t) (h2 : ¬ q → zRe p l e R s m args below meth c w A cs ss Qe pc lv st M u) : zRe p l e R s m args below meth c w A cs ss Qe pc lv st M (if q then t else u) := by
  by_cases hq : q
  · rw [if_pos hq]; exact h1 hq
  · rw [if_neg hq]; exact h2 hq
end ZR3
theorem cl_0 : zCl 0 8 RX0 TX0 tyX0 := ⟨rfl, by omega, tyX0_ok, nmX0, inX0⟩
theorem cl_1 : zCl 1 4 RX1 TX1 tyX1 := ⟨rfl, by omega, tyX1_ok, nmX1, inX1⟩
theorem cl_2 : zCl 2 6 RX2 TX2 tyX2 := ⟨rfl, by omega, tyX2_ok, nmX2, inX2⟩
theorem cl_3 : zCl 3 9 RX3 TX3 tyX3 := ⟨rfl, by omega, tyX3_ok, nmX3, inX3⟩
theorem cl_4 : zCl 4 6 RX4 TX4 tyX4 := ⟨rfl, by omega, tyX4_ok, nmX4, inX4⟩
theorem cl_5 : zCl 5 5 RX5 TX5 tyX5 := ⟨rfl, by omega, tyX5_ok, nmX5, inX5⟩
theorem cl_6 : zCl 6 8 RX6 TX6 tyX6 := ⟨rfl, by omega, tyX6_ok, nmX6, inX6⟩
theorem cl_7 : zCl 7 16 RX7 TX7 tyX7 := ⟨rfl, by omega, tyX7_ok, nmX7, inX7⟩
theorem cl_8 : zCl 8 2 RX8 TX8 tyX8 := ⟨rfl, by omega, tyX8_ok, nmX8, inX8⟩
theorem cl_9 : zCl 9 10 RX9 TX9 tyX9 := ⟨rfl, by omega, tyX9_ok, nmX9, inX9⟩
theorem cl_10 : zCl 10 61 RX10 TX10 tyX10 := ⟨rfl, by omega, tyX10_ok, nmX10, inX10⟩
end
