-- ===== PART A: goes FIRST, ahead of the names: the tables' words, and 'selects' of the private methods out of them =====
/-- a private method of a class that the tables say can be made, by its rows of tables_1 -/
def lw_okq (q : MethodName × Nat) : Prop := (q.1.cls ≠ "java/lang/invoke/MethodHandle" ∧ q.1.cls ≠ "java/lang/invoke/VarHandle") ∧ Cond.instantiable q.1.cls q.2 ∈ tables_1 ∧ Cond.privateMethod q.1 ∈ tables_1 ∧ Cond.instanceMethod q.1 ∈ tables_1
theorem lw_p0 : lw_okq (⟨"GuardRoster", "throwUnlessSlot", "(I)V"⟩, 12) := ⟨⟨by decide +kernel, by decide +kernel⟩, List.mem_of_getElem? (i := 25) (by decide +kernel), List.mem_of_getElem? (i := 236) (by decide +kernel), List.mem_of_getElem? (i := 237) (by decide +kernel)⟩
theorem lw_p1 : lw_okq (⟨"java/lang/Throwable", "fillInStackTrace", "(I)Ljava/lang/Throwable;"⟩, 6) := ⟨⟨by decide +kernel, by decide +kernel⟩, List.mem_of_getElem? (i := 283) (by decide +kernel), List.mem_of_getElem? (i := 281) (by decide +kernel), List.mem_of_getElem? (i := 282) (by decide +kernel)⟩
theorem lw_p2 : lw_okq (⟨"GuardRoster", "problemOfGate", "(I)I"⟩, 12) := ⟨⟨by decide +kernel, by decide +kernel⟩, List.mem_of_getElem? (i := 25) (by decide +kernel), List.mem_of_getElem? (i := 405) (by decide +kernel), List.mem_of_getElem? (i := 406) (by decide +kernel)⟩
theorem lw_p3 : lw_okq (⟨"GuardRoster", "problemOfGuard", "(I)I"⟩, 12) := ⟨⟨by decide +kernel, by decide +kernel⟩, List.mem_of_getElem? (i := 25) (by decide +kernel), List.mem_of_getElem? (i := 507) (by decide +kernel), List.mem_of_getElem? (i := 508) (by decide +kernel)⟩
theorem lw_p4 : lw_okq (⟨"GuardRoster", "throwUnlessGuard", "(I)V"⟩, 12) := ⟨⟨by decide +kernel, by decide +kernel⟩, List.mem_of_getElem? (i := 25) (by decide +kernel), List.mem_of_getElem? (i := 553) (by decide +kernel), List.mem_of_getElem? (i := 554) (by decide +kernel)⟩
theorem lw_p5 : lw_okq (⟨"GuardRoster", "problemOfDuty", "(III)I"⟩, 12) := ⟨⟨by decide +kernel, by decide +kernel⟩, List.mem_of_getElem? (i := 25) (by decide +kernel), List.mem_of_getElem? (i := 579) (by decide +kernel), List.mem_of_getElem? (i := 580) (by decide +kernel)⟩
theorem lw_p6 : lw_okq (⟨"GuardRoster", "isRefused", "(III)Z"⟩, 12) := ⟨⟨by decide +kernel, by decide +kernel⟩, List.mem_of_getElem? (i := 25) (by decide +kernel), List.mem_of_getElem? (i := 587) (by decide +kernel), List.mem_of_getElem? (i := 588) (by decide +kernel)⟩
theorem lw_p7 : lw_okq (⟨"GuardRoster", "keepRefusal", "(II)V"⟩, 12) := ⟨⟨by decide +kernel, by decide +kernel⟩, List.mem_of_getElem? (i := 25) (by decide +kernel), List.mem_of_getElem? (i := 596) (by decide +kernel), List.mem_of_getElem? (i := 597) (by decide +kernel)⟩
theorem lw_p8 : lw_okq (⟨"GuardRoster", "problemOfFreeing", "(II)I"⟩, 12) := ⟨⟨by decide +kernel, by decide +kernel⟩, List.mem_of_getElem? (i := 25) (by decide +kernel), List.mem_of_getElem? (i := 623) (by decide +kernel), List.mem_of_getElem? (i := 624) (by decide +kernel)⟩
theorem lw_p9 : lw_okq (⟨"GuardRoster", "problemOfExchange", "(IIII)I"⟩, 12) := ⟨⟨by decide +kernel, by decide +kernel⟩, List.mem_of_getElem? (i := 25) (by decide +kernel), List.mem_of_getElem? (i := 635) (by decide +kernel), List.mem_of_getElem? (i := 636) (by decide +kernel)⟩
theorem lw_p10 : lw_okq (⟨"GuardRoster", "isExchangeRefused", "(IIII)Z"⟩, 12) := ⟨⟨by decide +kernel, by decide +kernel⟩, List.mem_of_getElem? (i := 25) (by decide +kernel), List.mem_of_getElem? (i := 639) (by decide +kernel), List.mem_of_getElem? (i := 640) (by decide +kernel)⟩
theorem lw_p11 : lw_okq (⟨"GuardRoster", "problemOfFilling", "(I)I"⟩, 12) := ⟨⟨by decide +kernel, by decide +kernel⟩, List.mem_of_getElem? (i := 25) (by decide +kernel), List.mem_of_getElem? (i := 650) (by decide +kernel), List.mem_of_getElem? (i := 651) (by decide +kernel)⟩
theorem lw_p12 : lw_okq (⟨"GuardRoster$Roster", "computeOrderKeys", "()V"⟩, 2) := ⟨⟨by decide +kernel, by decide +kernel⟩, List.mem_of_getElem? (i := 33) (by decide +kernel), List.mem_of_getElem? (i := 658) (by decide +kernel), List.mem_of_getElem? (i := 659) (by decide +kernel)⟩
theorem lw_p13 : lw_okq (⟨"GuardRoster$Roster", "mostNeedingGate", "(I)I"⟩, 2) := ⟨⟨by decide +kernel, by decide +kernel⟩, List.mem_of_getElem? (i := 33) (by decide +kernel), List.mem_of_getElem? (i := 663) (by decide +kernel), List.mem_of_getElem? (i := 664) (by decide +kernel)⟩
theorem lw_p14 : lw_okq (⟨"GuardRoster$Roster", "firstGuardFor", "(II)I"⟩, 2) := ⟨⟨by decide +kernel, by decide +kernel⟩, List.mem_of_getElem? (i := 33) (by decide +kernel), List.mem_of_getElem? (i := 667) (by decide +kernel), List.mem_of_getElem? (i := 668) (by decide +kernel)⟩
theorem lw_p15 : lw_okq (⟨"GuardRoster", "throwUnlessGuardAndSlot", "(II)V"⟩, 12) := ⟨⟨by decide +kernel, by decide +kernel⟩, List.mem_of_getElem? (i := 25) (by decide +kernel), List.mem_of_getElem? (i := 689) (by decide +kernel), List.mem_of_getElem? (i := 690) (by decide +kernel)⟩
def lw_privs_1 : List (MethodName × Nat) := [(⟨"GuardRoster", "throwUnlessSlot", "(I)V"⟩, 12), (⟨"java/lang/Throwable", "fillInStackTrace", "(I)Ljava/lang/Throwable;"⟩, 6), (⟨"GuardRoster", "problemOfGate", "(I)I"⟩, 12), (⟨"GuardRoster", "problemOfGuard", "(I)I"⟩, 12), (⟨"GuardRoster", "throwUnlessGuard", "(I)V"⟩, 12), (⟨"GuardRoster", "problemOfDuty", "(III)I"⟩, 12), (⟨"GuardRoster", "isRefused", "(III)Z"⟩, 12), (⟨"GuardRoster", "keepRefusal", "(II)V"⟩, 12), (⟨"GuardRoster", "problemOfFreeing", "(II)I"⟩, 12), (⟨"GuardRoster", "problemOfExchange", "(IIII)I"⟩, 12), (⟨"GuardRoster", "isExchangeRefused", "(IIII)Z"⟩, 12), (⟨"GuardRoster", "problemOfFilling", "(I)I"⟩, 12), (⟨"GuardRoster$Roster", "computeOrderKeys", "()V"⟩, 2), (⟨"GuardRoster$Roster", "mostNeedingGate", "(I)I"⟩, 2), (⟨"GuardRoster$Roster", "firstGuardFor", "(II)I"⟩, 2), (⟨"GuardRoster", "throwUnlessGuardAndSlot", "(II)V"⟩, 12)]
theorem lw_r1 : ∀ q ∈ lw_privs_1, lw_okq q := List.forall_mem_cons.mpr ⟨lw_p0, List.forall_mem_cons.mpr ⟨lw_p1, List.forall_mem_cons.mpr ⟨lw_p2, List.forall_mem_cons.mpr ⟨lw_p3, List.forall_mem_cons.mpr ⟨lw_p4, List.forall_mem_cons.mpr ⟨lw_p5, List.forall_mem_cons.mpr ⟨lw_p6, List.forall_mem_cons.mpr ⟨lw_p7, List.forall_mem_cons.mpr ⟨lw_p8, List.forall_mem_cons.mpr ⟨lw_p9, List.forall_mem_cons.mpr ⟨lw_p10, List.forall_mem_cons.mpr ⟨lw_p11, List.forall_mem_cons.mpr ⟨lw_p12, List.forall_mem_cons.mpr ⟨lw_p13, List.forall_mem_cons.mpr ⟨lw_p14, List.forall_mem_cons.mpr ⟨lw_p15, fun _ h => absurd h List.not_mem_nil⟩⟩⟩⟩⟩⟩⟩⟩⟩⟩⟩⟩⟩⟩⟩⟩
theorem lw_p16 : lw_okq (⟨"GuardRoster$Roster", "guardsBefore", "(I)I"⟩, 2) := ⟨⟨by decide +kernel, by decide +kernel⟩, List.mem_of_getElem? (i := 33) (by decide +kernel), List.mem_of_getElem? (i := 752) (by decide +kernel), List.mem_of_getElem? (i := 753) (by decide +kernel)⟩
theorem lw_p17 : lw_okq (⟨"GuardRoster", "problemOfLeave", "(III)I"⟩, 12) := ⟨⟨by decide +kernel, by decide +kernel⟩, List.mem_of_getElem? (i := 25) (by decide +kernel), List.mem_of_getElem? (i := 763) (by decide +kernel), List.mem_of_getElem? (i := 764) (by decide +kernel)⟩
theorem lw_p18 : lw_okq (⟨"GuardRoster", "problemOfFood", "(I)I"⟩, 12) := ⟨⟨by decide +kernel, by decide +kernel⟩, List.mem_of_getElem? (i := 25) (by decide +kernel), List.mem_of_getElem? (i := 815) (by decide +kernel), List.mem_of_getElem? (i := 816) (by decide +kernel)⟩
theorem lw_p19 : lw_okq (⟨"GuardRoster", "problemOfPassing", "(I)I"⟩, 12) := ⟨⟨by decide +kernel, by decide +kernel⟩, List.mem_of_getElem? (i := 25) (by decide +kernel), List.mem_of_getElem? (i := 830) (by decide +kernel), List.mem_of_getElem? (i := 831) (by decide +kernel)⟩
theorem lw_p20 : lw_okq (⟨"GuardRoster$Roster", "feedGuardsOf", "(I)I"⟩, 2) := ⟨⟨by decide +kernel, by decide +kernel⟩, List.mem_of_getElem? (i := 33) (by decide +kernel), List.mem_of_getElem? (i := 838) (by decide +kernel), List.mem_of_getElem? (i := 839) (by decide +kernel)⟩
theorem lw_p21 : lw_okq (⟨"GuardRoster", "throwUnlessRefused", "()V"⟩, 12) := ⟨⟨by decide +kernel, by decide +kernel⟩, List.mem_of_getElem? (i := 25) (by decide +kernel), List.mem_of_getElem? (i := 849) (by decide +kernel), List.mem_of_getElem? (i := 850) (by decide +kernel)⟩
theorem lw_p22 : lw_okq (⟨"GuardRoster", "put", "(C)V"⟩, 12) := ⟨⟨by decide +kernel, by decide +kernel⟩, List.mem_of_getElem? (i := 25) (by decide +kernel), List.mem_of_getElem? (i := 900) (by decide +kernel), List.mem_of_getElem? (i := 901) (by decide +kernel)⟩
theorem lw_p23 : lw_okq (⟨"GuardRoster", "putNumber", "(I)V"⟩, 12) := ⟨⟨by decide +kernel, by decide +kernel⟩, List.mem_of_getElem? (i := 25) (by decide +kernel), List.mem_of_getElem? (i := 904) (by decide +kernel), List.mem_of_getElem? (i := 905) (by decide +kernel)⟩
theorem lw_p24 : lw_okq (⟨"GuardRoster", "putNumberOr", "(IC)V"⟩, 12) := ⟨⟨by decide +kernel, by decide +kernel⟩, List.mem_of_getElem? (i := 25) (by decide +kernel), List.mem_of_getElem? (i := 908) (by decide +kernel), List.mem_of_getElem? (i := 909) (by decide +kernel)⟩
theorem lw_p25 : lw_okq (⟨"GuardRoster$CommandText", "readCommand", "(I)I"⟩, 6) := ⟨⟨by decide +kernel, by decide +kernel⟩, List.mem_of_getElem? (i := 84) (by decide +kernel), List.mem_of_getElem? (i := 954) (by decide +kernel), List.mem_of_getElem? (i := 955) (by decide +kernel)⟩
theorem lw_p26 : lw_okq (⟨"GuardRoster$CommandText", "readShape", "(Ljava/lang/String;I)I"⟩, 6) := ⟨⟨by decide +kernel, by decide +kernel⟩, List.mem_of_getElem? (i := 84) (by decide +kernel), List.mem_of_getElem? (i := 969) (by decide +kernel), List.mem_of_getElem? (i := 970) (by decide +kernel)⟩
theorem lw_p27 : lw_okq (⟨"GuardRoster$CommandText", "characterAt", "(I)I"⟩, 6) := ⟨⟨by decide +kernel, by decide +kernel⟩, List.mem_of_getElem? (i := 84) (by decide +kernel), List.mem_of_getElem? (i := 1021) (by decide +kernel), List.mem_of_getElem? (i := 1022) (by decide +kernel)⟩
theorem lw_p28 : lw_okq (⟨"GuardRoster$CommandText", "keepValue", "(II)V"⟩, 6) := ⟨⟨by decide +kernel, by decide +kernel⟩, List.mem_of_getElem? (i := 84) (by decide +kernel), List.mem_of_getElem? (i := 1028) (by decide +kernel), List.mem_of_getElem? (i := 1029) (by decide +kernel)⟩
theorem lw_p29 : lw_okq (⟨"GuardRoster", "runs", "(I)Z"⟩, 12) := ⟨⟨by decide +kernel, by decide +kernel⟩, List.mem_of_getElem? (i := 25) (by decide +kernel), List.mem_of_getElem? (i := 1047) (by decide +kernel), List.mem_of_getElem? (i := 1048) (by decide +kernel)⟩
theorem lw_p30 : lw_okq (⟨"GuardRoster", "problemOfCommand", "(IIII)I"⟩, 12) := ⟨⟨by decide +kernel, by decide +kernel⟩, List.mem_of_getElem? (i := 25) (by decide +kernel), List.mem_of_getElem? (i := 1059) (by decide +kernel), List.mem_of_getElem? (i := 1060) (by decide +kernel)⟩
theorem lw_p31 : lw_okq (⟨"GuardRoster", "carryOut", "(IIII)V"⟩, 12) := ⟨⟨by decide +kernel, by decide +kernel⟩, List.mem_of_getElem? (i := 25) (by decide +kernel), List.mem_of_getElem? (i := 1063) (by decide +kernel), List.mem_of_getElem? (i := 1064) (by decide +kernel)⟩
def lw_privs_2 : List (MethodName × Nat) := [(⟨"GuardRoster$Roster", "guardsBefore", "(I)I"⟩, 2), (⟨"GuardRoster", "problemOfLeave", "(III)I"⟩, 12), (⟨"GuardRoster", "problemOfFood", "(I)I"⟩, 12), (⟨"GuardRoster", "problemOfPassing", "(I)I"⟩, 12), (⟨"GuardRoster$Roster", "feedGuardsOf", "(I)I"⟩, 2), (⟨"GuardRoster", "throwUnlessRefused", "()V"⟩, 12), (⟨"GuardRoster", "put", "(C)V"⟩, 12), (⟨"GuardRoster", "putNumber", "(I)V"⟩, 12), (⟨"GuardRoster", "putNumberOr", "(IC)V"⟩, 12), (⟨"GuardRoster$CommandText", "readCommand", "(I)I"⟩, 6), (⟨"GuardRoster$CommandText", "readShape", "(Ljava/lang/String;I)I"⟩, 6), (⟨"GuardRoster$CommandText", "characterAt", "(I)I"⟩, 6), (⟨"GuardRoster$CommandText", "keepValue", "(II)V"⟩, 6), (⟨"GuardRoster", "runs", "(I)Z"⟩, 12), (⟨"GuardRoster", "problemOfCommand", "(IIII)I"⟩, 12), (⟨"GuardRoster", "carryOut", "(IIII)V"⟩, 12)]
theorem lw_r2 : ∀ q ∈ lw_privs_2, lw_okq q := List.forall_mem_cons.mpr ⟨lw_p16, List.forall_mem_cons.mpr ⟨lw_p17, List.forall_mem_cons.mpr ⟨lw_p18, List.forall_mem_cons.mpr ⟨lw_p19, List.forall_mem_cons.mpr ⟨lw_p20, List.forall_mem_cons.mpr ⟨lw_p21, List.forall_mem_cons.mpr ⟨lw_p22, List.forall_mem_cons.mpr ⟨lw_p23, List.forall_mem_cons.mpr ⟨lw_p24, List.forall_mem_cons.mpr ⟨lw_p25, List.forall_mem_cons.mpr ⟨lw_p26, List.forall_mem_cons.mpr ⟨lw_p27, List.forall_mem_cons.mpr ⟨lw_p28, List.forall_mem_cons.mpr ⟨lw_p29, List.forall_mem_cons.mpr ⟨lw_p30, List.forall_mem_cons.mpr ⟨lw_p31, fun _ h => absurd h List.not_mem_nil⟩⟩⟩⟩⟩⟩⟩⟩⟩⟩⟩⟩⟩⟩⟩⟩
theorem lw_p32 : lw_okq (⟨"GuardRosterModel", "fails", "(I)Z"⟩, 21) := ⟨⟨by decide +kernel, by decide +kernel⟩, List.mem_of_getElem? (i := 1119) (by decide +kernel), List.mem_of_getElem? (i := 1200) (by decide +kernel), List.mem_of_getElem? (i := 1201) (by decide +kernel)⟩
theorem lw_p33 : lw_okq (⟨"GuardRosterModel", "keeps", "([I)V"⟩, 21) := ⟨⟨by decide +kernel, by decide +kernel⟩, List.mem_of_getElem? (i := 1119) (by decide +kernel), List.mem_of_getElem? (i := 1204) (by decide +kernel), List.mem_of_getElem? (i := 1205) (by decide +kernel)⟩
theorem lw_p34 : lw_okq (⟨"GuardRosterModel", "isGate", "(I)Z"⟩, 21) := ⟨⟨by decide +kernel, by decide +kernel⟩, List.mem_of_getElem? (i := 1119) (by decide +kernel), List.mem_of_getElem? (i := 1227) (by decide +kernel), List.mem_of_getElem? (i := 1228) (by decide +kernel)⟩
theorem lw_p35 : lw_okq (⟨"GuardRosterModel", "isNone", "(I)Z"⟩, 21) := ⟨⟨by decide +kernel, by decide +kernel⟩, List.mem_of_getElem? (i := 1119) (by decide +kernel), List.mem_of_getElem? (i := 1235) (by decide +kernel), List.mem_of_getElem? (i := 1236) (by decide +kernel)⟩
theorem lw_p36 : lw_okq (⟨"GuardRosterModel", "isGuard", "(I)Z"⟩, 21) := ⟨⟨by decide +kernel, by decide +kernel⟩, List.mem_of_getElem? (i := 1119) (by decide +kernel), List.mem_of_getElem? (i := 1239) (by decide +kernel), List.mem_of_getElem? (i := 1240) (by decide +kernel)⟩
theorem lw_p37 : lw_okq (⟨"GuardRosterModel", "ranked", "(I)I"⟩, 21) := ⟨⟨by decide +kernel, by decide +kernel⟩, List.mem_of_getElem? (i := 1119) (by decide +kernel), List.mem_of_getElem? (i := 1243) (by decide +kernel), List.mem_of_getElem? (i := 1244) (by decide +kernel)⟩
theorem lw_p38 : lw_okq (⟨"GuardRosterModel", "arePlace", "(II)Z"⟩, 21) := ⟨⟨by decide +kernel, by decide +kernel⟩, List.mem_of_getElem? (i := 1119) (by decide +kernel), List.mem_of_getElem? (i := 1255) (by decide +kernel), List.mem_of_getElem? (i := 1256) (by decide +kernel)⟩
theorem lw_p39 : lw_okq (⟨"GuardRosterModel", "isRefused", "(IIII)Z"⟩, 21) := ⟨⟨by decide +kernel, by decide +kernel⟩, List.mem_of_getElem? (i := 1119) (by decide +kernel), List.mem_of_getElem? (i := 1262) (by decide +kernel), List.mem_of_getElem? (i := 1263) (by decide +kernel)⟩
theorem lw_p40 : lw_okq (⟨"GuardRosterModel", "refuses", "(III)I"⟩, 21) := ⟨⟨by decide +kernel, by decide +kernel⟩, List.mem_of_getElem? (i := 1119) (by decide +kernel), List.mem_of_getElem? (i := 1266) (by decide +kernel), List.mem_of_getElem? (i := 1267) (by decide +kernel)⟩
theorem lw_p41 : lw_okq (⟨"GuardRosterModel", "who", "(II)I"⟩, 21) := ⟨⟨by decide +kernel, by decide +kernel⟩, List.mem_of_getElem? (i := 1119) (by decide +kernel), List.mem_of_getElem? (i := 1270) (by decide +kernel), List.mem_of_getElem? (i := 1271) (by decide +kernel)⟩
theorem lw_p42 : lw_okq (⟨"GuardRosterModel", "isOff", "(II)Z"⟩, 21) := ⟨⟨by decide +kernel, by decide +kernel⟩, List.mem_of_getElem? (i := 1119) (by decide +kernel), List.mem_of_getElem? (i := 1274) (by decide +kernel), List.mem_of_getElem? (i := 1275) (by decide +kernel)⟩
theorem lw_p43 : lw_okq (⟨"GuardRosterModel", "where", "(II)I"⟩, 21) := ⟨⟨by decide +kernel, by decide +kernel⟩, List.mem_of_getElem? (i := 1119) (by decide +kernel), List.mem_of_getElem? (i := 1278) (by decide +kernel), List.mem_of_getElem? (i := 1279) (by decide +kernel)⟩
theorem lw_p44 : lw_okq (⟨"GuardRosterModel", "puts", "(III)V"⟩, 21) := ⟨⟨by decide +kernel, by decide +kernel⟩, List.mem_of_getElem? (i := 1119) (by decide +kernel), List.mem_of_getElem? (i := 1282) (by decide +kernel), List.mem_of_getElem? (i := 1283) (by decide +kernel)⟩
theorem lw_p45 : lw_okq (⟨"GuardRosterModel", "duties", "(I)I"⟩, 21) := ⟨⟨by decide +kernel, by decide +kernel⟩, List.mem_of_getElem? (i := 1119) (by decide +kernel), List.mem_of_getElem? (i := 1286) (by decide +kernel), List.mem_of_getElem? (i := 1287) (by decide +kernel)⟩
theorem lw_p46 : lw_okq (⟨"GuardRosterModel", "nextGate", "(II)I"⟩, 21) := ⟨⟨by decide +kernel, by decide +kernel⟩, List.mem_of_getElem? (i := 1119) (by decide +kernel), List.mem_of_getElem? (i := 1306) (by decide +kernel), List.mem_of_getElem? (i := 1307) (by decide +kernel)⟩
theorem lw_p47 : lw_okq (⟨"GuardRosterModel", "chosen", "(II)I"⟩, 21) := ⟨⟨by decide +kernel, by decide +kernel⟩, List.mem_of_getElem? (i := 1119) (by decide +kernel), List.mem_of_getElem? (i := 1310) (by decide +kernel), List.mem_of_getElem? (i := 1311) (by decide +kernel)⟩
def lw_privs_3 : List (MethodName × Nat) := [(⟨"GuardRosterModel", "fails", "(I)Z"⟩, 21), (⟨"GuardRosterModel", "keeps", "([I)V"⟩, 21), (⟨"GuardRosterModel", "isGate", "(I)Z"⟩, 21), (⟨"GuardRosterModel", "isNone", "(I)Z"⟩, 21), (⟨"GuardRosterModel", "isGuard", "(I)Z"⟩, 21), (⟨"GuardRosterModel", "ranked", "(I)I"⟩, 21), (⟨"GuardRosterModel", "arePlace", "(II)Z"⟩, 21), (⟨"GuardRosterModel", "isRefused", "(IIII)Z"⟩, 21), (⟨"GuardRosterModel", "refuses", "(III)I"⟩, 21), (⟨"GuardRosterModel", "who", "(II)I"⟩, 21), (⟨"GuardRosterModel", "isOff", "(II)Z"⟩, 21), (⟨"GuardRosterModel", "where", "(II)I"⟩, 21), (⟨"GuardRosterModel", "puts", "(III)V"⟩, 21), (⟨"GuardRosterModel", "duties", "(I)I"⟩, 21), (⟨"GuardRosterModel", "nextGate", "(II)I"⟩, 21), (⟨"GuardRosterModel", "chosen", "(II)I"⟩, 21)]
theorem lw_r3 : ∀ q ∈ lw_privs_3, lw_okq q := List.forall_mem_cons.mpr ⟨lw_p32, List.forall_mem_cons.mpr ⟨lw_p33, List.forall_mem_cons.mpr ⟨lw_p34, List.forall_mem_cons.mpr ⟨lw_p35, List.forall_mem_cons.mpr ⟨lw_p36, List.forall_mem_cons.mpr ⟨lw_p37, List.forall_mem_cons.mpr ⟨lw_p38, List.forall_mem_cons.mpr ⟨lw_p39, List.forall_mem_cons.mpr ⟨lw_p40, List.forall_mem_cons.mpr ⟨lw_p41, List.forall_mem_cons.mpr ⟨lw_p42, List.forall_mem_cons.mpr ⟨lw_p43, List.forall_mem_cons.mpr ⟨lw_p44, List.forall_mem_cons.mpr ⟨lw_p45, List.forall_mem_cons.mpr ⟨lw_p46, List.forall_mem_cons.mpr ⟨lw_p47, fun _ h => absurd h List.not_mem_nil⟩⟩⟩⟩⟩⟩⟩⟩⟩⟩⟩⟩⟩⟩⟩⟩
theorem lw_p48 : lw_okq (⟨"GuardRosterModel", "isAhead", "(II)Z"⟩, 21) := ⟨⟨by decide +kernel, by decide +kernel⟩, List.mem_of_getElem? (i := 1119) (by decide +kernel), List.mem_of_getElem? (i := 1314) (by decide +kernel), List.mem_of_getElem? (i := 1315) (by decide +kernel)⟩
theorem lw_p49 : lw_okq (⟨"GuardRosterModel", "allDuties", "()I"⟩, 21) := ⟨⟨by decide +kernel, by decide +kernel⟩, List.mem_of_getElem? (i := 1119) (by decide +kernel), List.mem_of_getElem? (i := 1334) (by decide +kernel), List.mem_of_getElem? (i := 1335) (by decide +kernel)⟩
theorem lw_p50 : lw_okq (⟨"GuardRosterModel", "open", "(I)I"⟩, 21) := ⟨⟨by decide +kernel, by decide +kernel⟩, List.mem_of_getElem? (i := 1119) (by decide +kernel), List.mem_of_getElem? (i := 1342) (by decide +kernel), List.mem_of_getElem? (i := 1343) (by decide +kernel)⟩
theorem lw_p51 : lw_okq (⟨"GuardRosterModel", "openFromNow", "()I"⟩, 21) := ⟨⟨by decide +kernel, by decide +kernel⟩, List.mem_of_getElem? (i := 1119) (by decide +kernel), List.mem_of_getElem? (i := 1350) (by decide +kernel), List.mem_of_getElem? (i := 1351) (by decide +kernel)⟩
theorem lw_p52 : lw_okq (⟨"GuardRosterModel", "most", "(I)I"⟩, 21) := ⟨⟨by decide +kernel, by decide +kernel⟩, List.mem_of_getElem? (i := 1119) (by decide +kernel), List.mem_of_getElem? (i := 1362) (by decide +kernel), List.mem_of_getElem? (i := 1363) (by decide +kernel)⟩
theorem lw_p53 : lw_okq (⟨"GuardRosterModel", "following", "(I)I"⟩, 21) := ⟨⟨by decide +kernel, by decide +kernel⟩, List.mem_of_getElem? (i := 1119) (by decide +kernel), List.mem_of_getElem? (i := 1374) (by decide +kernel), List.mem_of_getElem? (i := 1375) (by decide +kernel)⟩
theorem lw_p54 : lw_okq (⟨"GuardRosterModel", "goes", "()I"⟩, 21) := ⟨⟨by decide +kernel, by decide +kernel⟩, List.mem_of_getElem? (i := 1119) (by decide +kernel), List.mem_of_getElem? (i := 1413) (by decide +kernel), List.mem_of_getElem? (i := 1414) (by decide +kernel)⟩
theorem lw_p55 : lw_okq (⟨"GuardRosterModel", "writes", "(I)V"⟩, 21) := ⟨⟨by decide +kernel, by decide +kernel⟩, List.mem_of_getElem? (i := 1119) (by decide +kernel), List.mem_of_getElem? (i := 1449) (by decide +kernel), List.mem_of_getElem? (i := 1450) (by decide +kernel)⟩
theorem lw_p56 : lw_okq (⟨"GuardRosterModel", "isText", "()Z"⟩, 21) := ⟨⟨by decide +kernel, by decide +kernel⟩, List.mem_of_getElem? (i := 1119) (by decide +kernel), List.mem_of_getElem? (i := 1473) (by decide +kernel), List.mem_of_getElem? (i := 1474) (by decide +kernel)⟩
theorem lw_p57 : lw_okq (⟨"GuardRosterModel", "commandHere", "()Z"⟩, 21) := ⟨⟨by decide +kernel, by decide +kernel⟩, List.mem_of_getElem? (i := 1119) (by decide +kernel), List.mem_of_getElem? (i := 1477) (by decide +kernel), List.mem_of_getElem? (i := 1478) (by decide +kernel)⟩
theorem lw_p58 : lw_okq (⟨"GuardRosterModel", "skips", "(I)Z"⟩, 21) := ⟨⟨by decide +kernel, by decide +kernel⟩, List.mem_of_getElem? (i := 1119) (by decide +kernel), List.mem_of_getElem? (i := 1481) (by decide +kernel), List.mem_of_getElem? (i := 1482) (by decide +kernel)⟩
theorem lw_p59 : lw_okq (⟨"GuardRosterModel", "here", "()I"⟩, 21) := ⟨⟨by decide +kernel, by decide +kernel⟩, List.mem_of_getElem? (i := 1119) (by decide +kernel), List.mem_of_getElem? (i := 1485) (by decide +kernel), List.mem_of_getElem? (i := 1486) (by decide +kernel)⟩
theorem lw_p60 : lw_okq (⟨"GuardRosterModel", "withG", "(I)Z"⟩, 21) := ⟨⟨by decide +kernel, by decide +kernel⟩, List.mem_of_getElem? (i := 1119) (by decide +kernel), List.mem_of_getElem? (i := 1489) (by decide +kernel), List.mem_of_getElem? (i := 1490) (by decide +kernel)⟩
theorem lw_p61 : lw_okq (⟨"GuardRosterModel", "isWord", "(ILjava/lang/String;)Z"⟩, 21) := ⟨⟨by decide +kernel, by decide +kernel⟩, List.mem_of_getElem? (i := 1119) (by decide +kernel), List.mem_of_getElem? (i := 1494) (by decide +kernel), List.mem_of_getElem? (i := 1495) (by decide +kernel)⟩
theorem lw_p62 : lw_okq (⟨"GuardRosterModel", "figures", "(III)Z"⟩, 21) := ⟨⟨by decide +kernel, by decide +kernel⟩, List.mem_of_getElem? (i := 1119) (by decide +kernel), List.mem_of_getElem? (i := 1500) (by decide +kernel), List.mem_of_getElem? (i := 1501) (by decide +kernel)⟩
theorem lw_p63 : lw_okq (⟨"GuardRosterModel", "withF", "(I)Z"⟩, 21) := ⟨⟨by decide +kernel, by decide +kernel⟩, List.mem_of_getElem? (i := 1119) (by decide +kernel), List.mem_of_getElem? (i := 1505) (by decide +kernel), List.mem_of_getElem? (i := 1506) (by decide +kernel)⟩
def lw_privs_4 : List (MethodName × Nat) := [(⟨"GuardRosterModel", "isAhead", "(II)Z"⟩, 21), (⟨"GuardRosterModel", "allDuties", "()I"⟩, 21), (⟨"GuardRosterModel", "open", "(I)I"⟩, 21), (⟨"GuardRosterModel", "openFromNow", "()I"⟩, 21), (⟨"GuardRosterModel", "most", "(I)I"⟩, 21), (⟨"GuardRosterModel", "following", "(I)I"⟩, 21), (⟨"GuardRosterModel", "goes", "()I"⟩, 21), (⟨"GuardRosterModel", "writes", "(I)V"⟩, 21), (⟨"GuardRosterModel", "isText", "()Z"⟩, 21), (⟨"GuardRosterModel", "commandHere", "()Z"⟩, 21), (⟨"GuardRosterModel", "skips", "(I)Z"⟩, 21), (⟨"GuardRosterModel", "here", "()I"⟩, 21), (⟨"GuardRosterModel", "withG", "(I)Z"⟩, 21), (⟨"GuardRosterModel", "isWord", "(ILjava/lang/String;)Z"⟩, 21), (⟨"GuardRosterModel", "figures", "(III)Z"⟩, 21), (⟨"GuardRosterModel", "withF", "(I)Z"⟩, 21)]
theorem lw_r4 : ∀ q ∈ lw_privs_4, lw_okq q := List.forall_mem_cons.mpr ⟨lw_p48, List.forall_mem_cons.mpr ⟨lw_p49, List.forall_mem_cons.mpr ⟨lw_p50, List.forall_mem_cons.mpr ⟨lw_p51, List.forall_mem_cons.mpr ⟨lw_p52, List.forall_mem_cons.mpr ⟨lw_p53, List.forall_mem_cons.mpr ⟨lw_p54, List.forall_mem_cons.mpr ⟨lw_p55, List.forall_mem_cons.mpr ⟨lw_p56, List.forall_mem_cons.mpr ⟨lw_p57, List.forall_mem_cons.mpr ⟨lw_p58, List.forall_mem_cons.mpr ⟨lw_p59, List.forall_mem_cons.mpr ⟨lw_p60, List.forall_mem_cons.mpr ⟨lw_p61, List.forall_mem_cons.mpr ⟨lw_p62, List.forall_mem_cons.mpr ⟨lw_p63, fun _ h => absurd h List.not_mem_nil⟩⟩⟩⟩⟩⟩⟩⟩⟩⟩⟩⟩⟩⟩⟩⟩
theorem lw_p64 : lw_okq (⟨"GuardRosterModel", "carries", "(I)I"⟩, 21) := ⟨⟨by decide +kernel, by decide +kernel⟩, List.mem_of_getElem? (i := 1119) (by decide +kernel), List.mem_of_getElem? (i := 1515) (by decide +kernel), List.mem_of_getElem? (i := 1516) (by decide +kernel)⟩
def lw_privs_5 : List (MethodName × Nat) := [(⟨"GuardRosterModel", "carries", "(I)I"⟩, 21)]
theorem lw_r5 : ∀ q ∈ lw_privs_5, lw_okq q := List.forall_mem_cons.mpr ⟨lw_p64, fun _ h => absurd h List.not_mem_nil⟩
def lw_privs : List (MethodName × Nat) := lw_privs_1 ++ (lw_privs_2 ++ (lw_privs_3 ++ (lw_privs_4 ++ (lw_privs_5))))
def lw_tbl : List Cond := k2_sels lw_privs ++ tables_1
theorem lw_privs_ok : ∀ q ∈ lw_privs, lw_okq q := by
  show ∀ q ∈ lw_privs_1 ++ (lw_privs_2 ++ (lw_privs_3 ++ (lw_privs_4 ++ (lw_privs_5)))), lw_okq q
  exact List.forall_mem_append.mpr ⟨lw_r1, List.forall_mem_append.mpr ⟨lw_r2, List.forall_mem_append.mpr ⟨lw_r3, List.forall_mem_append.mpr ⟨lw_r4, lw_r5⟩⟩⟩⟩
/-- the streams that the claim lets the run draw from -/
abbrev lw_cs : List Choice := [Jvm.Choice.named "NaN.bits"]
theorem lw_bits : nanBits ∈ lw_cs := by first | decide | exact List.mem_cons_self | simp [lw_cs, nanBits]

def RX4 : String := "GuardRoster"

def TX4 : u_T := fun k => match k with
  | 0 => ("GuardRoster", "roster", "LGuardRoster$Roster;", true)
  | 1 => ("GuardRoster", "history", "LGuardRoster$History;", true)
  | 2 => ("GuardRoster", "plan", "LGuardRoster$SlotPlan;", true)
  | 3 => ("GuardRoster", "text", "LGuardRoster$CommandText;", true)
  | 4 => ("GuardRoster", "savedCells", "[I", true)
  | 5 => ("GuardRoster", "saved", "Z", false)
  | 6 => ("GuardRoster", "output", "[C", true)
  | 7 => ("GuardRoster", "outputLength", "I", false)
  | 8 => ("GuardRoster", "latestReason", "I", false)
  | 9 => ("GuardRoster", "latestDetail", "I", false)
  | 10 => ("GuardRoster", "latestErrorPosition", "I", false)
  | _ => ("GuardRoster", "latestFailedCommand", "I", false)

def tyX4 : Nat → FieldType := fun k => match k with
  | 0 => .object "GuardRoster$Roster"
  | 1 => .object "GuardRoster$History"
  | 2 => .object "GuardRoster$SlotPlan"
  | 3 => .object "GuardRoster$CommandText"
  | 4 => .array .int
  | 5 => .boolean
  | 6 => .array .char
  | 7 => .int
  | 8 => .int
  | 9 => .int
  | 10 => .int
  | _ => .int

theorem nmX4 : ∀ a, a < 12 → ∀ b, b < 12 → a ≠ b → (TX4 a).2.1 ≠ (TX4 b).2.1 := by decide +kernel

theorem tyX4_ok : ∀ k, k < 12 → parseFieldDescriptor (TX4 k).2.2.1 = some (tyX4 k) := by decide +kernel

def RX2 : String := "GuardRoster$Roster"

def TX2 : u_T := fun k => match k with
  | 0 => ("GuardRoster$Roster", "cells", "[I", true)
  | _ => ("GuardRoster$Roster", "orderKeys", "[I", true)

def tyX2 : Nat → FieldType := fun k => match k with
  | 0 => .array .int
  | _ => .array .int

theorem nmX2 : ∀ a, a < 2 → ∀ b, b < 2 → a ≠ b → (TX2 a).2.1 ≠ (TX2 b).2.1 := by decide +kernel

theorem tyX2_ok : ∀ k, k < 2 → parseFieldDescriptor (TX2 k).2.2.1 = some (tyX2 k) := by decide +kernel

def RX1 : String := "GuardRoster$History"

def TX1 : u_T := fun k => match k with
  | 0 => ("GuardRoster$History", "rows", "[[I", true)
  | 1 => ("GuardRoster$History", "next", "I", false)
  | _ => ("GuardRoster$History", "size", "I", false)

def tyX1 : Nat → FieldType := fun k => match k with
  | 0 => .array (.array .int)
  | 1 => .int
  | _ => .int

theorem nmX1 : ∀ a, a < 3 → ∀ b, b < 3 → a ≠ b → (TX1 a).2.1 ≠ (TX1 b).2.1 := by decide +kernel

theorem tyX1_ok : ∀ k, k < 3 → parseFieldDescriptor (TX1 k).2.2.1 = some (tyX1 k) := by decide +kernel

def RX3 : String := "GuardRoster$SlotPlan"

def TX3 : u_T := fun k => match k with
  | 0 => ("GuardRoster$SlotPlan", "fits", "[I", true)
  | 1 => ("GuardRoster$SlotPlan", "gateGiven", "[I", true)
  | 2 => ("GuardRoster$SlotPlan", "triedGuards", "I", false)
  | _ => ("GuardRoster$SlotPlan", "guardsOfSet", "[I", true)

def tyX3 : Nat → FieldType := fun k => match k with
  | 0 => .array .int
  | 1 => .array .int
  | 2 => .int
  | _ => .array .int

theorem nmX3 : ∀ a, a < 4 → ∀ b, b < 4 → a ≠ b → (TX3 a).2.1 ≠ (TX3 b).2.1 := by decide +kernel

theorem tyX3_ok : ∀ k, k < 4 → parseFieldDescriptor (TX3 k).2.2.1 = some (tyX3 k) := by decide +kernel

def RX0 : String := "GuardRoster$CommandText"

def TX0 : u_T := fun k => match k with
  | 0 => ("GuardRoster$CommandText", "characters", "[C", true)
  | 1 => ("GuardRoster$CommandText", "length", "I", false)
  | 2 => ("GuardRoster$CommandText", "kinds", "[I", true)
  | 3 => ("GuardRoster$CommandText", "values", "[I", true)
  | 4 => ("GuardRoster$CommandText", "count", "I", false)
  | _ => ("GuardRoster$CommandText", "wrong", "I", false)

def tyX0 : Nat → FieldType := fun k => match k with
  | 0 => .array .char
  | 1 => .int
  | 2 => .array .int
  | 3 => .array .int
  | 4 => .int
  | _ => .int

theorem nmX0 : ∀ a, a < 6 → ∀ b, b < 6 → a ≠ b → (TX0 a).2.1 ≠ (TX0 b).2.1 := by decide +kernel

theorem tyX0_ok : ∀ k, k < 6 → parseFieldDescriptor (TX0 k).2.2.1 = some (tyX0 k) := by decide +kernel

def RX5 : String := "GuardRosterModel"

def TX5 : u_T := fun k => match k with
  | 0 => ("GuardRosterModel", "g", "[I", true)
  | 1 => ("GuardRosterModel", "kept", "[I", true)
  | 2 => ("GuardRosterModel", "saved", "[I", true)
  | 3 => ("GuardRosterModel", "before", "[I", true)
  | 4 => ("GuardRosterModel", "isSaved", "Z", false)
  | 5 => ("GuardRosterModel", "changes", "I", false)
  | 6 => ("GuardRosterModel", "isWithin", "Z", false)
  | 7 => ("GuardRosterModel", "code", "I", false)
  | 8 => ("GuardRosterModel", "why", "I", false)
  | 9 => ("GuardRosterModel", "detail", "I", false)
  | 10 => ("GuardRosterModel", "input", "[I", true)
  | 11 => ("GuardRosterModel", "length", "I", false)
  | 12 => ("GuardRosterModel", "error", "I", false)
  | 13 => ("GuardRosterModel", "failed", "I", false)
  | 14 => ("GuardRosterModel", "signs", "[C", true)
  | 15 => ("GuardRosterModel", "signMany", "I", false)
  | 16 => ("GuardRosterModel", "told", "I", false)
  | 17 => ("GuardRosterModel", "best", "[I", true)
  | 18 => ("GuardRosterModel", "at", "I", false)
  | 19 => ("GuardRosterModel", "orders", "[I", true)
  | _ => ("GuardRosterModel", "orderMany", "I", false)

def tyX5 : Nat → FieldType := fun k => match k with
  | 0 => .array .int
  | 1 => .array .int
  | 2 => .array .int
  | 3 => .array .int
  | 4 => .boolean
  | 5 => .int
  | 6 => .boolean
  | 7 => .int
  | 8 => .int
  | 9 => .int
  | 10 => .array .int
  | 11 => .int
  | 12 => .int
  | 13 => .int
  | 14 => .array .char
  | 15 => .int
  | 16 => .int
  | 17 => .array .int
  | 18 => .int
  | 19 => .array .int
  | _ => .int

theorem nmX5 : ∀ a, a < 21 → ∀ b, b < 21 → a ≠ b → (TX5 a).2.1 ≠ (TX5 b).2.1 := by decide +kernel

theorem tyX5_ok : ∀ k, k < 21 → parseFieldDescriptor (TX5 k).2.2.1 = some (tyX5 k) := by decide +kernel


abbrev Mem : Type := Nat → Nat → Int32
def gw : List Cond := lw_tbl.filter goodWord
theorem gw_good : ∀ w ∈ gw, (w.onTables && w.keeps) = true ∨ ∃ ty, w = .arrayClass ty := fun w h => good_of_word (List.mem_filter.mp h).2
theorem gw_t {w : Cond} (i : Nat) (h : tables_1[i]? = some w) (hg : goodWord w = true) : w ∈ gw := List.mem_filter.mpr ⟨List.mem_append_right _ (List.mem_of_getElem? h), hg⟩
theorem gw_t1 {w : Cond} (i : Nat) (h : tables_1_1[i]? = some w) (hg : goodWord w = true) : w ∈ gw := by
  have hm := List.mem_of_getElem? h
  exact List.mem_filter.mpr ⟨List.mem_append_right _ (by unfold tables_1; exact List.mem_append_left _ (hm)), hg⟩
theorem gw_t2 {w : Cond} (i : Nat) (h : tables_1_2[i]? = some w) (hg : goodWord w = true) : w ∈ gw := by
  have hm := List.mem_of_getElem? h
  exact List.mem_filter.mpr ⟨List.mem_append_right _ (by unfold tables_1; exact List.mem_append_right _ (List.mem_append_left _ (hm))), hg⟩
theorem gw_t3 {w : Cond} (i : Nat) (h : tables_1_3[i]? = some w) (hg : goodWord w = true) : w ∈ gw := by
  have hm := List.mem_of_getElem? h
  exact List.mem_filter.mpr ⟨List.mem_append_right _ (by unfold tables_1; exact List.mem_append_right _ (List.mem_append_right _ (List.mem_append_left _ (hm)))), hg⟩
theorem gw_t4 {w : Cond} (i : Nat) (h : tables_1_4[i]? = some w) (hg : goodWord w = true) : w ∈ gw := by
  have hm := List.mem_of_getElem? h
  exact List.mem_filter.mpr ⟨List.mem_append_right _ (by unfold tables_1; exact List.mem_append_right _ (List.mem_append_right _ (List.mem_append_right _ (List.mem_append_left _ (hm))))), hg⟩
theorem gw_t5 {w : Cond} (i : Nat) (h : tables_1_5[i]? = some w) (hg : goodWord w = true) : w ∈ gw := by
  have hm := List.mem_of_getElem? h
  exact List.mem_filter.mpr ⟨List.mem_append_right _ (by unfold tables_1; exact List.mem_append_right _ (List.mem_append_right _ (List.mem_append_right _ (List.mem_append_right _ (List.mem_append_left _ (hm)))))), hg⟩
theorem gw_t6 {w : Cond} (i : Nat) (h : tables_1_6[i]? = some w) (hg : goodWord w = true) : w ∈ gw := by
  have hm := List.mem_of_getElem? h
  exact List.mem_filter.mpr ⟨List.mem_append_right _ (by unfold tables_1; exact List.mem_append_right _ (List.mem_append_right _ (List.mem_append_right _ (List.mem_append_right _ (List.mem_append_right _ (List.mem_append_left _ (hm))))))), hg⟩
theorem gw_t7 {w : Cond} (i : Nat) (h : tables_1_7[i]? = some w) (hg : goodWord w = true) : w ∈ gw := by
  have hm := List.mem_of_getElem? h
  exact List.mem_filter.mpr ⟨List.mem_append_right _ (by unfold tables_1; exact List.mem_append_right _ (List.mem_append_right _ (List.mem_append_right _ (List.mem_append_right _ (List.mem_append_right _ (List.mem_append_right _ (hm))))))), hg⟩
theorem gw_p {q : MethodName × Nat} (i : Nat) (h : lw_privs[i]? = some q) : Cond.selects q.1.cls q.1 q.1 ∈ gw := List.mem_filter.mpr ⟨List.mem_append_left _ (List.mem_map.mpr ⟨q, List.mem_of_getElem? h, rfl⟩), rfl⟩
theorem gw_tbl : ∀ w ∈ gw, w ∈ lw_tbl := fun _ h => (List.mem_filter.mp h).1
abbrev wz (y : MethodName) (c : ByteArray) (n : Nat) (ret : Option FieldType) : List Cond := Cond.code y c n ret :: gw
theorem gz {y : MethodName} {c : ByteArray} {n : Nat} {ret : Option FieldType} (h : Cond.code y c n ret ∈ gw) : GoodIn gw (wz y c n ret) := fun w hw => by
  rcases List.mem_cons.mp hw with rfl | hw
  · exact ⟨h, gw_good _ h⟩
  · exact ⟨hw, gw_good _ hw⟩
abbrev cls : List vw_C := [(RX4, TX4, 12), (RX2, TX2, 2), (RX1, TX1, 3), (RX3, TX3, 4), (RX0, TX0, 6), (RX5, TX5, 21)]
abbrev GX : Type := (va_G × (Nat → Nat)) × (Nat → ClassId) × (Nat → Nat) × (Nat → Nat)
abbrev gD (X : GX) : va_G := X.1.1
abbrev ga (X : GX) : Nat → Nat := X.1.2
abbrev gc (X : GX) : Nat → ClassId := X.2.1
abbrev gK (X : GX) : Nat → Nat := X.2.2.1
abbrev gV (X : GX) : Nat → Nat := X.2.2.2
/-- the double that the law keeps, by how it was made -/
def dval (k a b : Int32) : UInt64 := if k = 0 then 0 else if k = 1 then FP.ddiv (FP.i2d a) (FP.i2d b) else FP.f2d (FP.fdiv (FP.i2f a) (FP.i2f b))
def strs : List (String × Nat × String) := [("GuardRoster$CommandText", 53, "gate #"), ("GuardRoster$CommandText", 55, "guard #"), ("GuardRoster$CommandText", 57, "duty #@%=#"), ("GuardRoster$CommandText", 59, "free #@%"), ("GuardRoster$CommandText", 61, "leave # %-%"), ("GuardRoster$CommandText", 63, "fill %"), ("GuardRoster$CommandText", 65, "food %"), ("GuardRoster$CommandText", 67, "pass %"), ("GuardRosterModel", 183, "te"), ("GuardRosterModel", 192, "ard"), ("GuardRosterModel", 194, "ee"), ("GuardRosterModel", 196, "ll"), ("GuardRosterModel", 198, "od"), ("GuardRosterModel", 206, "uty"), ("GuardRosterModel", 208, "eave"), ("GuardRosterModel", 210, "ass"), ("GuardRoster", 369, "there is no such slot"), ("GuardRoster", 120, "there is no such gate, slot or guard"), ("GuardRoster", 359, "the argument is not allowed"), ("GuardRoster", 361, "the roster does not allow this now"), ("GuardRoster", 363, "there is no such duty"), ("GuardRoster", 365, "it is refused"), ("GuardRoster", 86, "there is no such gate"), ("GuardRoster", 367, "there is no such guard"), ("GuardRoster", 145, "there is no such gate or slot"), ("GuardRoster", 149, "there is no duty"), ("GuardRoster", 159, "the guard has no duty in the slot"), ("GuardRoster", 189, "the guard has no duty left"), ("GuardRoster", 194, "there is no such place"), ("GuardRoster", 209, "the guard is not on leave in the slot"), ("GuardRoster", 371, "nothing was refused"), ("GuardRoster", 248, "there are no guards"), ("GuardRoster", 251, "there are no gates"), ("GuardRoster", 267, "there is no such character"), ("GuardRoster", 290, "the input buffer is full"), ("GuardRoster", 308, "the text is malformed"), ("GuardRoster", 325, "a command fails"), ("GuardRoster", 331, "no error position was kept"), ("GuardRoster", 333, "no failed command was kept"), ("GuardRoster", 338, "there is no change to undo"), ("GuardRoster", 351, "nothing was saved")]
def lenS : List Nat := [6, 7, 10, 8, 11, 6, 6, 6, 2, 3, 2, 2, 2, 3, 4, 3]
def bytS : List (List Int32) := [[103, 97, 116, 101, 32, 35], [103, 117, 97, 114, 100, 32, 35], [100, 117, 116, 121, 32, 35, 64, 37, 61, 35], [102, 114, 101, 101, 32, 35, 64, 37], [108, 101, 97, 118, 101, 32, 35, 32, 37, 45, 37], [102, 105, 108, 108, 32, 37], [102, 111, 111, 100, 32, 37], [112, 97, 115, 115, 32, 37], [116, 101], [97, 114, 100], [101, 101], [108, 108], [111, 100], [117, 116, 121], [101, 97, 118, 101], [97, 115, 115]]
def ncs : List (String × String) := [("java/lang/IndexOutOfBoundsException", "java/lang/IllegalArgumentException"), ("java/lang/IllegalStateException", "java/lang/IllegalArgumentException"), ("java/util/NoSuchElementException", "java/lang/IllegalArgumentException"), ("java/lang/UnsupportedOperationException", "java/lang/IllegalArgumentException"), ("java/lang/ArrayIndexOutOfBoundsException", "java/lang/IllegalArgumentException"), ("java/lang/ArithmeticException", "java/lang/IllegalArgumentException"), ("java/lang/IndexOutOfBoundsException", "java/lang/IllegalStateException"), ("java/lang/IllegalArgumentException", "java/lang/IllegalStateException"), ("java/util/NoSuchElementException", "java/lang/IllegalStateException"), ("java/lang/UnsupportedOperationException", "java/lang/IllegalStateException"), ("java/lang/ArrayIndexOutOfBoundsException", "java/lang/IllegalStateException"), ("java/lang/ArithmeticException", "java/lang/IllegalStateException"), ("java/lang/IllegalArgumentException", "java/lang/IndexOutOfBoundsException"), ("java/lang/IllegalStateException", "java/lang/IndexOutOfBoundsException"), ("java/util/NoSuchElementException", "java/lang/IndexOutOfBoundsException"), ("java/lang/UnsupportedOperationException", "java/lang/IndexOutOfBoundsException"), ("java/lang/ArithmeticException", "java/lang/IndexOutOfBoundsException"), ("java/lang/IndexOutOfBoundsException", "java/lang/UnsupportedOperationException"), ("java/lang/IllegalArgumentException", "java/lang/UnsupportedOperationException"), ("java/lang/IllegalStateException", "java/lang/UnsupportedOperationException"), ("java/util/NoSuchElementException", "java/lang/UnsupportedOperationException"), ("java/lang/ArrayIndexOutOfBoundsException", "java/lang/UnsupportedOperationException"), ("java/lang/ArithmeticException", "java/lang/UnsupportedOperationException"), ("java/lang/IndexOutOfBoundsException", "java/util/NoSuchElementException"), ("java/lang/IllegalArgumentException", "java/util/NoSuchElementException"), ("java/lang/IllegalStateException", "java/util/NoSuchElementException"), ("java/lang/UnsupportedOperationException", "java/util/NoSuchElementException"), ("java/lang/ArrayIndexOutOfBoundsException", "java/util/NoSuchElementException"), ("java/lang/ArithmeticException", "java/util/NoSuchElementException"), ("java/lang/IndexOutOfBoundsException", "java/lang/ArithmeticException"), ("java/lang/IllegalArgumentException", "java/lang/ArithmeticException"), ("java/lang/IllegalStateException", "java/lang/ArithmeticException"), ("java/util/NoSuchElementException", "java/lang/ArithmeticException"), ("java/lang/UnsupportedOperationException", "java/lang/ArithmeticException"), ("java/lang/ArrayIndexOutOfBoundsException", "java/lang/ArithmeticException")]
def sch (i : Nat) (x : Int32) : Int32 := ((bytS.getD i []).getD x.toNatClampNeg 0) &&& 255abbrev tysW (X : GX) : List (ClassId × FieldType) := [(gc X 0, .int), (gc X 1, .char), (gc X 2, .array .int), (gc X 3, .long), (gc X 4, .double)]

def wW (X : GX) (σ : Mem) : va_W := [
  (ga X 0, .inr (0, [.ref (ga X 1), .ref (ga X 4), .ref (ga X 15), .ref (ga X 19), .ref (ga X 23), .int (σ 0 5), .ref (ga X 24), .int (σ 0 7), .int (σ 0 8), .int (σ 0 9), .int (σ 0 10), .int (σ 0 11)])),
  (ga X 1, .inr (1, [.ref (ga X 2), .ref (ga X 3)])),
  (ga X 2, .inl (gc X 0, 179, .inl (σ 2))),
  (ga X 3, .inl (gc X 0, 10, .inl (σ 3))),
  (ga X 4, .inr (2, [.ref (ga X 5), .int (σ 4 1), .int (σ 4 2)])),
  (ga X 5, .inl (gc X 2, 9, .inr (.inr (.inr (.inr (fun i => some (ga X (6 + i)))))))),
  (ga X 6, .inl (gc X 0, 179, .inl (σ 6))),
  (ga X 7, .inl (gc X 0, 179, .inl (σ 7))),
  (ga X 8, .inl (gc X 0, 179, .inl (σ 8))),
  (ga X 9, .inl (gc X 0, 179, .inl (σ 9))),
  (ga X 10, .inl (gc X 0, 179, .inl (σ 10))),
  (ga X 11, .inl (gc X 0, 179, .inl (σ 11))),
  (ga X 12, .inl (gc X 0, 179, .inl (σ 12))),
  (ga X 13, .inl (gc X 0, 179, .inl (σ 13))),
  (ga X 14, .inl (gc X 0, 179, .inl (σ 14))),
  (ga X 15, .inr (3, [.ref (ga X 16), .ref (ga X 17), .int (σ 15 2), .ref (ga X 18)])),
  (ga X 16, .inl (gc X 0, 5, .inl (σ 16))),
  (ga X 17, .inl (gc X 0, 10, .inl (σ 17))),
  (ga X 18, .inl (gc X 0, 32, .inl (σ 18))),
  (ga X 19, .inr (4, [.ref (ga X 20), .int (σ 19 1), .ref (ga X 21), .ref (ga X 22), .int (σ 19 4), .int (σ 19 5)])),
  (ga X 20, .inl (gc X 1, 60, .inl (σ 20))),
  (ga X 21, .inl (gc X 0, 9, .inl (σ 21))),
  (ga X 22, .inl (gc X 0, 27, .inl (σ 22))),
  (ga X 23, .inl (gc X 0, 179, .inl (σ 23))),
  (ga X 24, .inl (gc X 1, 28, .inl (σ 24))),
  (ga X 25, .inr (5, [.ref (ga X 26), .ref (ga X 27), .ref (ga X 28), .ref (ga X 29), .int (σ 25 4), .int (σ 25 5), .int (σ 25 6), .int (σ 25 7), .int (σ 25 8), .int (σ 25 9), .ref (ga X 30), .int (σ 25 11), .int (σ 25 12), .int (σ 25 13), .ref (ga X 31), .int (σ 25 15), .int (σ 25 16), .ref (ga X 32), .int (σ 25 18), .ref (ga X 33), .int (σ 25 20)])),
  (ga X 26, .inl (gc X 0, 179, .inl (σ 26))),
  (ga X 27, .inl (gc X 0, 1432, .inl (σ 27))),
  (ga X 28, .inl (gc X 0, 179, .inl (σ 28))),
  (ga X 29, .inl (gc X 0, 179, .inl (σ 29))),
  (ga X 30, .inl (gc X 0, 60, .inl (σ 30))),
  (ga X 31, .inl (gc X 1, 60, .inl (σ 31))),
  (ga X 32, .inl (gc X 0, 32, .inl (σ 32))),
  (ga X 33, .inl (gc X 0, 124, .inl (σ 33))),
  (ga X 34, .inl (gc X 3, 1, .inr (.inl (fun j => (σ 34 j).toInt64)))),
  (ga X 35, .inl (gc X 4, 1, .inr (.inr (.inr (.inl (fun j => dval (σ 35 (3 * j)) (σ 35 (3 * j + 1)) (σ 35 (3 * j + 2))))))))]


def st (σ : Mem) (c j : Nat) (v : Int32) : Mem := va_up σ c (upd (σ c) j v)
def WS (X : GX) (A : Nat → Prop) (H0 : Heap) (σ : Mem) (H : Heap) (locs : List Loc) : Prop := va_P (gD X) cls (wW X σ) H ∧ va_D A (wW X σ) ∧ va_S A H0 H locs
/-- what holds of the launch's own cells: the texts, three statics, which classes are apart -/
def ZF (X : GX) (A : Nat → Prop) (U : State) (H : Heap) : Prop := vk_S 16 lenS bytS (gK X) (gV X) A U H ∧ (∀ (i : Nat) (q : String × Nat × String), strs[i]? = some q → vk_R q.1 q.2.1 q.2.2 (gK X i) U) ∧ va_Z "java/lang/String" "COMPACT_STRINGS" "Z" (.int 1) A U H ∧ va_Zq "jdk/internal/util/Preconditions" "SIOOBE_FORMATTER" "Ljava/util/function/BiFunction;" A U H ∧ vx_Zq Bundle.tN "UNASSIGNED_STACK" Bundle.steD A U H ∧ vx_Zq Bundle.tN "SUPPRESSED_SENTINEL" Bundle.listD A U H ∧ ∀ q ∈ ncs, va_Nc q.1 q.2 U
theorem ZF.call {X : GX} {A B : Nat → Prop} {s U : State} {H : Heap} {locs : List Loc} (h : ZF X A s s.heap) (hS : va_S A s.heap H locs) (hB : ∀ q, B q → A q) (hU : U.heap = H) (hW : s.WarmedH U.vm) : ZF X B U U.heap := by
  obtain ⟨h1, h2, h3, h4, h5, h6, h7⟩ := h
  rw [hU]
  exact ⟨((h1.kept hS.2.1).narrow hB).moved hW.alike, fun i q hq => (h2 i q hq).warm hW, ((h3.kept hS.2.1).narrow hB).moved hW.alike, ((h4.kept hS.2.1).narrow hB).moved hW.alike, ((h5.kept hS.2.1).narrow hB).moved hW.alike, ((h6.kept hS.2.1).narrow hB).moved hW.alike, fun q hq => (h7 q hq).moved hW.alike⟩
theorem ZF.same {X : GX} {A : Nat → Prop} {u U : State} {H : Heap} (h : ZF X A u H) (hv : U.vm = u.vm) : ZF X A U H := by
  obtain ⟨h1, h2, h3, h4, h5, h6, h7⟩ := h
  have hm : u.vm.Alike U.vm := by rw [hv]; exact Vm.Alike.refl _
  exact ⟨h1.moved hm, fun i q hq => vk_R.same hv (h2 i q hq), h3.moved hm, h4.moved hm, h5.moved hm, h6.moved hm, fun q hq => (h7 q hq).moved hm⟩
def PW (X : GX) (sz : Nat) (σ : Mem) (U : State) : Prop := U.heap.size = sz ∧ va_P (gD X) cls (wW X σ) U.heap ∧ va_K (gD X) cls (tysW X) U ∧ va_D (fun _ => True) (wW X σ) ∧ ZF X (va_A (wW X σ) sz) U U.heap
def BW (X : GX) (A : Nat → Prop) (σ : Mem) (t : State) : Prop := va_P (gD X) cls (wW X σ) t.heap ∧ va_K (gD X) cls (tysW X) t ∧ va_D A (wW X σ)
/-- a method of the world that returns an int: from the cells σ it answers as K says -/
def MI (l : Launch) (X : GX) (y : MethodName) (c : ByteArray) (n : Nat) (ret : Option FieldType) (rm : Room) (as : List Value) (σ : Mem) (K : Int32 → Mem → Prop) : Prop :=
  ∀ sz, Met l y (wz y c n ret) rm (va_Pc as (PW X sz σ)) (va_Qi K (BW X (va_A (wW X σ) sz)) (va_A (wW X σ) sz)) 0 0 (va_A (wW X σ) sz)
def MV (l : Launch) (X : GX) (y : MethodName) (c : ByteArray) (n : Nat) (ret : Option FieldType) (rm : Room) (as : List Value) (σ : Mem) (K : Mem → Prop) : Prop :=
  ∀ sz, Met l y (wz y c n ret) rm (va_Pc as (PW X sz σ)) (va_Qv K (BW X (va_A (wW X σ) sz)) (va_A (wW X σ) sz)) 0 0 (va_A (wW X σ) sz)
/-- the answer is a text, by its place -/
def QR (X : GX) (K : Nat → Mem → Prop) (A : Nat → Prop) : Array Value → State → Outcome → State → Prop := va_Qr (S := Nat × Mem) (fun u => K u.1 u.2) (fun u a t => a = gK X u.1 ∧ BW X A u.2 t) A
def MR (l : Launch) (X : GX) (y : MethodName) (c : ByteArray) (n : Nat) (ret : Option FieldType) (rm : Room) (as : List Value) (σ : Mem) (K : Nat → Mem → Prop) : Prop :=
  ∀ sz, Met l y (wz y c n ret) rm (va_Pc as (PW X sz σ)) (QR X K (va_A (wW X σ) sz)) 0 0 (va_A (wW X σ) sz)
section G0
variable {p : Program} {l : Launch} {e : Env} {R : Room} {s : State} {m : MethodId} {args : Array Value} {below : List Frame} {meth : Method} {c : Code} {H : Heap} {locs : List Loc} {cells slots : Nat} {Q : State → Prop}
variable {cc : ByteArray} {pc : Nat} {ls : Array Slot} {rest : List Value} {A : Nat → Prop} {H0 : Heap} {X : GX} {σ : Mem}
/-- what a walk of a method begins with -/
def Ent (l : Launch) (X : GX) (y : MethodName) (cc : ByteArray) (n : Nat) (ret : Option FieldType) (rm : Room) (as : List Value) (σ : Mem) (QQ : (Nat → Prop) → Array Value → State → Outcome → State → Prop) : Prop :=
  ∀ (p : Program) (e : Env) (s : State) (m : MethodId) (args : Array Value) (below : List Frame) (meth : Method) (c : Code) (A : Nat → Prop) (ls : Array Slot), p.tables.exec = Jvm.exec → c.code = cc → meth.sig.returnType = ret → meth.locks = false → c.maxLocals = n → s.vm.findClass y.cls = some m.cls → (∀ w ∈ gw, w.before args s = true) → va_K (gD X) cls (tysW X) s → ZF X A s s.heap → (∀ q, s.heap.size ≤ q → A q) → WS X A s.heap σ s.heap [] → lv_has ls n (lv_args 0 as) →
    W p l e rm s m args below meth c s.heap [] 0 0 (MQ below (QQ A) args s 0 0 A) (F0 m 0 ls [])
theorem ent_met {y : MethodName} {n : Nat} {ret : Option FieldType} {rm : Room} {as : List Value} {QQ : (Nat → Prop) → Array Value → State → Outcome → State → Prop} (hy : plainName y.cls = true) (hlen : (lg_sl as).length ≤ n) (h : Ent l X y cc n ret rm as σ QQ) :
    ∀ sz, Met l y (wz y cc n ret) rm (va_Pc as (PW X sz σ)) (QQ (va_A (wW X σ) sz)) 0 0 (va_A (wW X σ) sz) := by
  intro sz
  refine Met.ofW (cc := cc) (maxL := n) (ret := ret) hy rfl ?_
  intro p e s m args below meth c s₁ B hml hv
  obtain ⟨rfl, hsz, hP, hK, hD0, hZ⟩ := hv
  subst hsz
  have hD := hD0.self (sz := s.heap.size)
  have hts := atoms_spec (ws := wz y cc n ret) B.pre
  rw [lg_entry_eq]
  exact h p e s m as.toArray below meth c (va_A (wW X σ) s.heap.size) _ B.exec B.bytes B.returns B.notSynchronized hml (findClass_of_methodNamed B.named) (fun w hw => hts w (List.mem_cons_of_mem _ hw)) hK hZ (fun q h => Or.inr h) ⟨hP, hD, va_S.rf⟩ (lv_entry as hlen)
theorem k_iret {K : Int32 → Mem → Prop} {v : Int32} (hx : p.tables.exec = Jvm.exec) (hb : c.code = cc) (hr : meth.sig.returnType = some .int) (hlocks : meth.locks = false) (hK : va_K (gD X) cls (tysW X) s) (hS : WS X A s.heap σ H locs) (h : K v σ) (hdg : decode cc pc = .ok (.ireturn, 1)) : W p l e R s m args below meth c H locs 0 0 (MQ below (va_Qi K (BW X A) A) args s 0 0 A) (F0 m pc ls [.int v]) :=
  W.iret (v := v) hx hb hr (fun t ht hW => ⟨⟨v, σ, rfl, h, by rw [ht]; exact hS.1, va_K.moved hW.alike hK, hS.2.1⟩, hS.2.2.F ht⟩) hS.2.2.2.2 hdg
theorem k_zret {K : Int32 → Mem → Prop} {v : Int32} {ty : FieldType} (hx : p.tables.exec = Jvm.exec) (hb : c.code = cc) (hr : meth.sig.returnType = some ty) (hlocks : meth.locks = false) (hK : va_K (gD X) cls (tysW X) s) (hS : WS X A s.heap σ H locs) (hn : narrow ty (.int v) = .int v) (h : K v σ) (hdg : decode cc pc = .ok (.ireturn, 1)) : W p l e R s m args below meth c H locs 0 0 (MQ below (va_Qi K (BW X A) A) args s 0 0 A) (F0 m pc ls [.int v]) :=
  W.zret (v := v) hx hb hr hn (fun t ht hW => ⟨⟨v, σ, rfl, h, by rw [ht]; exact hS.1, va_K.moved hW.alike hK, hS.2.1⟩, hS.2.2.F ht⟩) hS.2.2.2.2 hdg
theorem k_vret {K : Mem → Prop} (hx : p.tables.exec = Jvm.exec) (hb : c.code = cc) (hr : meth.sig.returnType = none) (hlocks : meth.locks = false) (hK : va_K (gD X) cls (tysW X) s) (hS : WS X A s.heap σ H locs) (h : K σ) (hdg : decode cc pc = .ok (.return_, 1)) : W p l e R s m args below meth c H locs 0 0 (MQ below (va_Qv K (BW X A) A) args s 0 0 A) (F0 m pc ls []) :=
  W.vret hx hb hr (fun t ht hW => ⟨⟨σ, rfl, h, by rw [ht]; exact hS.1, va_K.moved hW.alike hK, hS.2.1⟩, hS.2.2.F ht⟩) hS.2.2.2.2 hdg
theorem k_sret {K : Nat → Mem → Prop} {i : Nat} (hx : p.tables.exec = Jvm.exec) (hb : c.code = cc) (hr : meth.sig.returnType = some (.object "java/lang/String")) (hlocks : meth.locks = false) (hK : va_K (gD X) cls (tysW X) s) (hS : WS X A s.heap σ H locs) (h : K i σ) (hdg : decode cc pc = .ok (.areturn, 1)) : W p l e R s m args below meth c H locs 0 0 (MQ below (QR X K A) args s 0 0 A) (F0 m pc ls [.ref (gK X i)]) :=
  W.aret (v := .ref (gK X i)) hx hb hr (Or.inl ⟨_, rfl⟩) (Or.inr ⟨_, rfl⟩) (fun t ht hW => ⟨⟨(i, σ), gK X i, rfl, h, rfl, by rw [ht]; exact hS.1, va_K.moved hW.alike hK, hS.2.1⟩, hS.2.2.F ht⟩) hS.2.2.2.2 hdg
theorem ws_len (X : GX) (σ : Mem) : (wW X σ).length = 36 := rfl
theorem ws_ad (X : GX) (σ σ' : Mem) : (wW X σ).map (fun q => q.1) = (wW X σ').map (fun q => q.1) := rfl
theorem ws_A {σ σ' : Mem} {sz : Nat} {q : Nat} (h : va_A (wW X σ) sz q) : va_A (wW X σ') sz q := by
  rcases h with ⟨k, e, h⟩ | h
  · have h1 : ((wW X σ).map (fun q => q.1))[k]? = some q := by rw [List.getElem?_map, h]; rfl
    rw [ws_ad X σ σ', List.getElem?_map] at h1
    cases hk : (wW X σ')[k]? with
    | none => rw [hk] at h1; cases h1
    | some x =>
      rw [hk] at h1
      have h2 : x.1 = q := Option.some.inj h1
      exact Or.inl ⟨k, x.2, by rw [hk, ← h2]⟩
  · exact Or.inr h
theorem ws_free (hS : WS X A H0 σ H locs) (hA : ∀ q, H0.size ≤ q → A q) : ∀ q, va_A (wW X σ) H.size q → A q := by
  intro q h
  rcases h with ⟨k, e, h⟩ | h
  · exact hS.2.1.2 k (q, e) h
  · exact hA q (Nat.le_trans hS.2.2.1 h)
theorem ws_blind (sz : Nat) (as : List Value) : FrameBlind (va_Pc as (PW X sz σ)) := fun a U g mk q => by
  obtain ⟨q0, q1, qP, qK, qD, qZ⟩ := q
  exact ⟨q0, q1, qP, va_K.moved (u := U) (U := U.calling g mk a) (Vm.Alike.refl U.vm) qK, qD, qZ.same rfl⟩
/-- the table's rows of a method -/
def MF (y : MethodName) (c : ByteArray) (n : Nat) (ret : Option FieldType) (np : Nat) : Prop := Cond.code y c n ret ∈ gw ∧ Cond.initialized y.cls ∈ gw ∧ (y.cls ≠ "java/lang/invoke/MethodHandle" ∧ y.cls ≠ "java/lang/invoke/VarHandle") ∧ (parseMethodDescriptor y.desc).map (fun d => d.parameters.length) = some np
def MFV (y : MethodName) (c : ByteArray) (n : Nat) (ret : Option FieldType) (np : Nat) : Prop := MF y c n ret np ∧ Cond.instanceMethod y ∈ gw ∧ Cond.selects y.cls y y ∈ gw
def MFS (y : MethodName) (c : ByteArray) (n : Nat) (ret : Option FieldType) (np : Nat) : Prop := MF y c n ret np ∧ Cond.static y ∈ gw
theorem k_callB {y : MethodName} {c' : ByteArray} {n' np idx : Nat} {ret' : Option FieldType} {rm : Room} {own : String} (hF : MF y c' n' ret' np) (ht : ∀ w ∈ gw, w.before args s = true) (hlink : Cond.methodLink own idx y ∈ gw) (hrc : rm.cells = 0 ∧ rm.slots = 0) (hR : rm.frames + 1 ≤ R.frames ∧ 8 + (n' + 11) + rm.locals ≤ R.locals) :
    CallB R s args own idx y c' n' ret' (wz y c' n' ret') rm 0 0 np :=
  ⟨hrc.1, hrc.2, hR.1, hR.2, pay_in ht (gz hF.1), List.mem_cons_self, ht _ hF.1, ht _ hF.2.1, hF.2.2.1, fun sig h => by
    have h2 := hF.2.2.2
    rw [h] at h2
    exact (Option.some.inj h2).symm, ht _ hlink⟩
theorem k_runV {y : MethodName} {c' : ByteArray} {n' np idx nL : Nat} {ret' : Option FieldType} {rm : Room} {own : String} {b : Addr} {As rest st0 : List Value} {Qc : Array Value → State → Outcome → State → Prop} (hM : Met l y (wz y c' n' ret') rm (va_Pc (.ref b :: As) (PW X H.size σ)) Qc 0 0 (va_A (wW X σ) H.size)) (hF : MFV y c' n' ret' np) (hlink : Cond.methodLink own idx y ∈ gw)
    (hx : p.tables.exec = Jvm.exec) (hb : c.code = cc) (hml : c.maxLocals = nL) (hown : s.vm.findClass own = some m.cls) (ht : ∀ w ∈ gw, w.before args s = true) (hK : va_K (gD X) cls (tysW X) s) (hZ : ZF X A s s.heap) (hS : WS X A s.heap σ H locs) (hA : ∀ q, s.heap.size ≤ q → A q) (q0 ci : Nat) {C : vw_C} {fs : List Value} (hci : cls[ci]? = some C) (hC : C.1 = y.cls) (he : (wW X σ)[q0]? = some (b, .inr (ci, fs)))
    (hrc : rm.cells = 0 ∧ rm.slots = 0) (hR : rm.frames + 1 ≤ R.frames ∧ 8 + (n' + 11) + rm.locals ≤ R.locals) (hn : As.length = np) (hls : ls.size = nL) (hst : st0 = As.reverse ++ .ref b :: rest) (hcat : (rest.map fun v => v.category).sum ≤ 8) (hz : cells ≤ R.cells ∧ slots ≤ R.slots) (hdg : decode cc pc = .ok (.invokevirtual idx, 3)) :
    va_Run p l e R s m args below meth c H locs cells slots 0 0 (F0 m pc ls st0) rest (Qc (Value.ref b :: As).toArray) (va_A (wW X σ) H.size) :=
  va_runV (cc := cc) (nL := nL) (Ts := gw) (own := own) (C := C.1) (rest := rest) ⟨hx, hb, hml, hown, ht⟩ hM ⟨k_callB hF.1 ht hlink hrc hR, ht _ hF.2.1, by rw [hC]; exact ht _ hF.2.2⟩ ⟨ws_blind _ _, va_recv hK hS.1 hci he, fun U hU hW => ⟨rfl, by rw [hU], by rw [hU]; exact hS.1, va_K.moved hW.alike hK, hS.2.1.weaken (fun _ _ _ _ => trivial), hZ.call hS.2.2 (ws_free hS hA) hU hW⟩⟩ rfl hn hls hst (lv_room hcat) hdg hz
theorem k_runS {y : MethodName} {c' : ByteArray} {n' np idx nL : Nat} {ret' : Option FieldType} {rm : Room} {own : String} {As rest st0 : List Value} {Qc : Array Value → State → Outcome → State → Prop} (hM : Met l y (wz y c' n' ret') rm (va_Pc As (PW X H.size σ)) Qc 0 0 (va_A (wW X σ) H.size)) (hF : MFS y c' n' ret' np) (hlink : Cond.methodLink own idx y ∈ gw)
    (hx : p.tables.exec = Jvm.exec) (hb : c.code = cc) (hml : c.maxLocals = nL) (hown : s.vm.findClass own = some m.cls) (ht : ∀ w ∈ gw, w.before args s = true) (hK : va_K (gD X) cls (tysW X) s) (hZ : ZF X A s s.heap) (hS : WS X A s.heap σ H locs) (hA : ∀ q, s.heap.size ≤ q → A q)
    (hrc : rm.cells = 0 ∧ rm.slots = 0) (hR : rm.frames + 1 ≤ R.frames ∧ 8 + (n' + 11) + rm.locals ≤ R.locals) (hn : As.length = np) (hls : ls.size = nL) (hst : st0 = As.reverse ++ rest) (hcat : (rest.map fun v => v.category).sum ≤ 8) (hz : cells ≤ R.cells ∧ slots ≤ R.slots) (hdg : decode cc pc = .ok (.invokestatic idx, 3)) :
    va_Run p l e R s m args below meth c H locs cells slots 0 0 (F0 m pc ls st0) rest (Qc As.toArray) (va_A (wW X σ) H.size) :=
  va_runS (cc := cc) (nL := nL) (Ts := gw) (own := own) (rest := rest) ⟨hx, hb, hml, hown, ht⟩ hM ⟨k_callB hF.1 ht hlink hrc hR, ht _ hF.2⟩ ⟨ws_blind _ _, fun U hU hW => ⟨rfl, by rw [hU], by rw [hU]; exact hS.1, va_K.moved hW.alike hK, hS.2.1.weaken (fun _ _ _ _ => trivial), hZ.call hS.2.2 (ws_free hS hA) hU hW⟩⟩ rfl hn hls hst (lv_room hcat) hdg hz
theorem k_aftI {a : Array Value} {K : Int32 → Mem → Prop} {st0 : List Value} (hr : va_Run p l e R s m args below meth c H locs cells slots 0 0 (F0 m pc ls st0) rest (va_Qi K (BW X (va_A (wW X σ) H.size)) (va_A (wW X σ) H.size) a) (va_A (wW X σ) H.size)) (hS : WS X A H0 σ H locs) (hA : ∀ q, H0.size ≤ q → A q)
    (kk : ∀ (r : Int32) (σ : Mem) (H : Heap) (locs : List Loc), WS X A H0 σ H locs → K r σ → W p l e R s m args below meth c H locs cells slots Q (F0 m (pc + 3) ls (.int r :: rest))) : W p l e R s m args below meth c H locs cells slots Q (F0 m pc ls st0) := by
  have hF := ws_free hS hA
  refine va_calli hr hS.2.2 (fun q _ h => hF q h) hF (fun r u t H1 locs1 ht hvm hw hB hz1 hk1 hS1 => ?_)
  obtain ⟨hP1, hK1, hD1⟩ := hB
  rw [ht] at hP1
  exact kk r u H1 locs1 ⟨hP1, hD1.weaken (fun k q _ h => hF q.1 h), hS1⟩ hw
theorem k_aftV {a : Array Value} {K : Mem → Prop} {st0 : List Value} (hr : va_Run p l e R s m args below meth c H locs cells slots 0 0 (F0 m pc ls st0) rest (va_Qv K (BW X (va_A (wW X σ) H.size)) (va_A (wW X σ) H.size) a) (va_A (wW X σ) H.size)) (hS : WS X A H0 σ H locs) (hA : ∀ q, H0.size ≤ q → A q)
    (kk : ∀ (σ : Mem) (H : Heap) (locs : List Loc), WS X A H0 σ H locs → K σ → W p l e R s m args below meth c H locs cells slots Q (F0 m (pc + 3) ls rest)) : W p l e R s m args below meth c H locs cells slots Q (F0 m pc ls st0) := by
  have hF := ws_free hS hA
  refine va_callv hr hS.2.2 (fun q _ h => hF q h) hF (fun u t H1 locs1 ht hvm hw hB hz1 hk1 hS1 => ?_)
  obtain ⟨hP1, hK1, hD1⟩ := hB
  rw [ht] at hP1
  exact kk u H1 locs1 ⟨hP1, hD1.weaken (fun k q _ h => hF q.1 h), hS1⟩ hw
end G0
/-- a loop by its step: n rounds at most -/
def wlp {S : Type} (F : (S → Prop) → S → Prop) : Nat → S → Prop
  | 0, _ => False
  | n + 1, s => F (wlp F n) s
theorem wlp_of {S : Type} {F : (S → Prop) → S → Prop} (I : S → Prop) (μ : S → Nat) (h : ∀ s, I s → ∀ B : S → Prop, (∀ s', I s' → μ s' < μ s → B s') → F B s) (s : S) (hs : I s) : ∃ n, wlp F n s := by
  have key : ∀ k s, I s → μ s < k → wlp F k s := by
    intro k
    induction k with
    | zero => intro s _ hk; omega
    | succ k ih => intro s hI hk; exact h s hI (wlp F k) (fun s' h1 h2 => ih s' h1 (by omega))
  exact ⟨μ s + 1, key _ s hs (Nat.lt_succ_self _)⟩

theorem in_0 : ∀ w ∈ u_ws RX4 TX4 12, w ∈ gw := by
  intro w hw
  obtain ⟨k, hk, rfl⟩ := List.mem_map.mp hw
  have hk := List.mem_range.mp hk
  rcases (show k = 0 ∨ k = 1 ∨ k = 2 ∨ k = 3 ∨ k = 4 ∨ k = 5 ∨ k = 6 ∨ k = 7 ∨ k = 8 ∨ k = 9 ∨ k = 10 ∨ k = 11 by omega) with rfl | rfl | rfl | rfl | rfl | rfl | rfl | rfl | rfl | rfl | rfl | rfl
  · exact gw_t 121 (by decide +kernel) rfl
  · exact gw_t 123 (by decide +kernel) rfl
  · exact gw_t 125 (by decide +kernel) rfl
  · exact gw_t 127 (by decide +kernel) rfl
  · exact gw_t 129 (by decide +kernel) rfl
  · exact gw_t 131 (by decide +kernel) rfl
  · exact gw_t 133 (by decide +kernel) rfl
  · exact gw_t 135 (by decide +kernel) rfl
  · exact gw_t 137 (by decide +kernel) rfl
  · exact gw_t 139 (by decide +kernel) rfl
  · exact gw_t 141 (by decide +kernel) rfl
  · exact gw_t 143 (by decide +kernel) rfl

theorem in_1 : ∀ w ∈ u_ws RX2 TX2 2, w ∈ gw := by
  intro w hw
  obtain ⟨k, hk, rfl⟩ := List.mem_map.mp hw
  have hk := List.mem_range.mp hk
  rcases (show k = 0 ∨ k = 1 by omega) with rfl | rfl
  · exact gw_t 40 (by decide +kernel) rfl
  · exact gw_t 42 (by decide +kernel) rfl

theorem in_2 : ∀ w ∈ u_ws RX1 TX1 3, w ∈ gw := by
  intro w hw
  obtain ⟨k, hk, rfl⟩ := List.mem_map.mp hw
  have hk := List.mem_range.mp hk
  rcases (show k = 0 ∨ k = 1 ∨ k = 2 by omega) with rfl | rfl | rfl
  · exact gw_t 57 (by decide +kernel) rfl
  · exact gw_t 59 (by decide +kernel) rfl
  · exact gw_t 61 (by decide +kernel) rfl

theorem in_3 : ∀ w ∈ u_ws RX3 TX3 4, w ∈ gw := by
  intro w hw
  obtain ⟨k, hk, rfl⟩ := List.mem_map.mp hw
  have hk := List.mem_range.mp hk
  rcases (show k = 0 ∨ k = 1 ∨ k = 2 ∨ k = 3 by omega) with rfl | rfl | rfl | rfl
  · exact gw_t 74 (by decide +kernel) rfl
  · exact gw_t 76 (by decide +kernel) rfl
  · exact gw_t 78 (by decide +kernel) rfl
  · exact gw_t 80 (by decide +kernel) rfl

theorem in_4 : ∀ w ∈ u_ws RX0 TX0 6, w ∈ gw := by
  intro w hw
  obtain ⟨k, hk, rfl⟩ := List.mem_map.mp hw
  have hk := List.mem_range.mp hk
  rcases (show k = 0 ∨ k = 1 ∨ k = 2 ∨ k = 3 ∨ k = 4 ∨ k = 5 by omega) with rfl | rfl | rfl | rfl | rfl | rfl
  · exact gw_t 95 (by decide +kernel) rfl
  · exact gw_t 97 (by decide +kernel) rfl
  · exact gw_t 99 (by decide +kernel) rfl
  · exact gw_t 101 (by decide +kernel) rfl
  · exact gw_t 103 (by decide +kernel) rfl
  · exact gw_t 105 (by decide +kernel) rfl

theorem in_5 : ∀ w ∈ u_ws RX5 TX5 21, w ∈ gw := by
  intro w hw
  obtain ⟨k, hk, rfl⟩ := List.mem_map.mp hw
  have hk := List.mem_range.mp hk
  rcases (show k = 0 ∨ k = 1 ∨ k = 2 ∨ k = 3 ∨ k = 4 ∨ k = 5 ∨ k = 6 ∨ k = 7 ∨ k = 8 ∨ k = 9 ∨ k = 10 ∨ k = 11 ∨ k = 12 ∨ k = 13 ∨ k = 14 ∨ k = 15 ∨ k = 16 ∨ k = 17 ∨ k = 18 ∨ k = 19 ∨ k = 20 by omega) with rfl | rfl | rfl | rfl | rfl | rfl | rfl | rfl | rfl | rfl | rfl | rfl | rfl | rfl | rfl | rfl | rfl | rfl | rfl | rfl | rfl
  · exact gw_t 1145 (by decide +kernel) rfl
  · exact gw_t 1147 (by decide +kernel) rfl
  · exact gw_t 1149 (by decide +kernel) rfl
  · exact gw_t 1151 (by decide +kernel) rfl
  · exact gw_t 1153 (by decide +kernel) rfl
  · exact gw_t 1155 (by decide +kernel) rfl
  · exact gw_t 1157 (by decide +kernel) rfl
  · exact gw_t 1159 (by decide +kernel) rfl
  · exact gw_t 1161 (by decide +kernel) rfl
  · exact gw_t 1163 (by decide +kernel) rfl
  · exact gw_t 1165 (by decide +kernel) rfl
  · exact gw_t 1167 (by decide +kernel) rfl
  · exact gw_t 1169 (by decide +kernel) rfl
  · exact gw_t 1171 (by decide +kernel) rfl
  · exact gw_t 1173 (by decide +kernel) rfl
  · exact gw_t 1175 (by decide +kernel) rfl
  · exact gw_t 1177 (by decide +kernel) rfl
  · exact gw_t 1179 (by decide +kernel) rfl
  · exact gw_t 1181 (by decide +kernel) rfl
  · exact gw_t 1183 (by decide +kernel) rfl
  · exact gw_t 1185 (by decide +kernel) rfl

section G1
variable {p : Program} {l : Launch} {e : Env} {R : Room} {s : State} {m : MethodId} {args : Array Value} {below : List Frame} {meth : Method} {c : Code} {H : Heap} {locs : List Loc} {cells slots : Nat} {Q : State → Prop}
variable {cc : ByteArray} {pc : Nat} {ls : Array Slot} {rest : List Value} {A : Nat → Prop} {H0 : Heap} {X : GX} {σ : Mem} {own : String} {index : Nat}

theorem get_0_0 (hx : p.tables.exec = Jvm.exec) (hb : c.code = cc) (hown : s.vm.findClass own = some m.cls) (ht : ∀ w ∈ gw, w.before args s = true) (hK : va_K (gD X) cls (tysW X) s) (hS : WS X A H0 σ H locs) (hl : Cond.fieldLink own index "GuardRoster" "roster" "LGuardRoster$Roster;" ∈ gw) (hdg : decode cc pc = .ok (.getfield index, 3)) (kk : W p l e R s m args below meth c H locs cells slots Q (F0 m (pc + 3) ls (.ref (ga X 1) :: rest))) : W p l e R s m args below meth c H locs cells slots Q (F0 m pc ls (.ref (ga X 0) :: rest)) :=
  va_get (D := gD X) (ci := 0) (v := .ref (ga X 1)) (C := RX4) (T := TX4) (N := 12) hx hb ht in_0 hown hK hS.1 0 rfl rfl 0 (by decide) (ht _ hl) (fun _ h9 => h9) rfl hdg kk

theorem get_0_1 (hx : p.tables.exec = Jvm.exec) (hb : c.code = cc) (hown : s.vm.findClass own = some m.cls) (ht : ∀ w ∈ gw, w.before args s = true) (hK : va_K (gD X) cls (tysW X) s) (hS : WS X A H0 σ H locs) (hl : Cond.fieldLink own index "GuardRoster" "history" "LGuardRoster$History;" ∈ gw) (hdg : decode cc pc = .ok (.getfield index, 3)) (kk : W p l e R s m args below meth c H locs cells slots Q (F0 m (pc + 3) ls (.ref (ga X 4) :: rest))) : W p l e R s m args below meth c H locs cells slots Q (F0 m pc ls (.ref (ga X 0) :: rest)) :=
  va_get (D := gD X) (ci := 0) (v := .ref (ga X 4)) (C := RX4) (T := TX4) (N := 12) hx hb ht in_0 hown hK hS.1 0 rfl rfl 1 (by decide) (ht _ hl) (fun _ h9 => h9) rfl hdg kk

theorem get_0_2 (hx : p.tables.exec = Jvm.exec) (hb : c.code = cc) (hown : s.vm.findClass own = some m.cls) (ht : ∀ w ∈ gw, w.before args s = true) (hK : va_K (gD X) cls (tysW X) s) (hS : WS X A H0 σ H locs) (hl : Cond.fieldLink own index "GuardRoster" "plan" "LGuardRoster$SlotPlan;" ∈ gw) (hdg : decode cc pc = .ok (.getfield index, 3)) (kk : W p l e R s m args below meth c H locs cells slots Q (F0 m (pc + 3) ls (.ref (ga X 15) :: rest))) : W p l e R s m args below meth c H locs cells slots Q (F0 m pc ls (.ref (ga X 0) :: rest)) :=
  va_get (D := gD X) (ci := 0) (v := .ref (ga X 15)) (C := RX4) (T := TX4) (N := 12) hx hb ht in_0 hown hK hS.1 0 rfl rfl 2 (by decide) (ht _ hl) (fun _ h9 => h9) rfl hdg kk

theorem get_0_3 (hx : p.tables.exec = Jvm.exec) (hb : c.code = cc) (hown : s.vm.findClass own = some m.cls) (ht : ∀ w ∈ gw, w.before args s = true) (hK : va_K (gD X) cls (tysW X) s) (hS : WS X A H0 σ H locs) (hl : Cond.fieldLink own index "GuardRoster" "text" "LGuardRoster$CommandText;" ∈ gw) (hdg : decode cc pc = .ok (.getfield index, 3)) (kk : W p l e R s m args below meth c H locs cells slots Q (F0 m (pc + 3) ls (.ref (ga X 19) :: rest))) : W p l e R s m args below meth c H locs cells slots Q (F0 m pc ls (.ref (ga X 0) :: rest)) :=
  va_get (D := gD X) (ci := 0) (v := .ref (ga X 19)) (C := RX4) (T := TX4) (N := 12) hx hb ht in_0 hown hK hS.1 0 rfl rfl 3 (by decide) (ht _ hl) (fun _ h9 => h9) rfl hdg kk

theorem get_0_4 (hx : p.tables.exec = Jvm.exec) (hb : c.code = cc) (hown : s.vm.findClass own = some m.cls) (ht : ∀ w ∈ gw, w.before args s = true) (hK : va_K (gD X) cls (tysW X) s) (hS : WS X A H0 σ H locs) (hl : Cond.fieldLink own index "GuardRoster" "savedCells" "[I" ∈ gw) (hdg : decode cc pc = .ok (.getfield index, 3)) (kk : W p l e R s m args below meth c H locs cells slots Q (F0 m (pc + 3) ls (.ref (ga X 23) :: rest))) : W p l e R s m args below meth c H locs cells slots Q (F0 m pc ls (.ref (ga X 0) :: rest)) :=
  va_get (D := gD X) (ci := 0) (v := .ref (ga X 23)) (C := RX4) (T := TX4) (N := 12) hx hb ht in_0 hown hK hS.1 0 rfl rfl 4 (by decide) (ht _ hl) (fun _ h9 => h9) rfl hdg kk

theorem get_0_5 (hx : p.tables.exec = Jvm.exec) (hb : c.code = cc) (hown : s.vm.findClass own = some m.cls) (ht : ∀ w ∈ gw, w.before args s = true) (hK : va_K (gD X) cls (tysW X) s) (hS : WS X A H0 σ H locs) (hl : Cond.fieldLink own index "GuardRoster" "saved" "Z" ∈ gw) (hdg : decode cc pc = .ok (.getfield index, 3)) (kk : W p l e R s m args below meth c H locs cells slots Q (F0 m (pc + 3) ls (.int (σ 0 5) :: rest))) : W p l e R s m args below meth c H locs cells slots Q (F0 m pc ls (.ref (ga X 0) :: rest)) :=
  va_get (D := gD X) (ci := 0) (v := .int (σ 0 5)) (C := RX4) (T := TX4) (N := 12) hx hb ht in_0 hown hK hS.1 0 rfl rfl 5 (by decide) (ht _ hl) (fun _ h9 => h9) rfl hdg kk

theorem put_0_5 (hx : p.tables.exec = Jvm.exec) (hb : c.code = cc) (hown : s.vm.findClass own = some m.cls) (ht : ∀ w ∈ gw, w.before args s = true) (hK : va_K (gD X) cls (tysW X) s) (hS : WS X A H0 σ H locs) {v : Int32} (hn : narrow .boolean (.int v) = .int v) (hf : fits .boolean (.int v) = true) (hl : Cond.fieldLink own index "GuardRoster" "saved" "Z" ∈ gw) (hdg : decode cc pc = .ok (.putfield index, 3)) (kk : ∀ (H : Heap) (locs : List Loc), WS X A H0 (st σ 0 5 v) H locs → W p l e R s m args below meth c H locs cells slots Q (F0 m (pc + 3) ls rest)) : W p l e R s m args below meth c H locs cells slots Q (F0 m pc ls (.int v :: .ref (ga X 0) :: rest)) :=
  va_put (D := gD X) (ci := 0) (v := .int v) (ty := .boolean) (C := RX4) (T := TX4) (N := 12) hx hb ht in_0 tyX4 tyX4_ok nmX4 hown hK hS.1 hS.2.1 hS.2.2 0 rfl rfl 5 (by decide) (ht _ hl) (fun _ h9 => h9) rfl (tyX4_ok 5 (by decide)) hn hf (Nat.le_of_ble_eq_true rfl) hdg (fun H locs hP hD hS => kk H locs ⟨hP, hD, hS⟩)

theorem get_0_6 (hx : p.tables.exec = Jvm.exec) (hb : c.code = cc) (hown : s.vm.findClass own = some m.cls) (ht : ∀ w ∈ gw, w.before args s = true) (hK : va_K (gD X) cls (tysW X) s) (hS : WS X A H0 σ H locs) (hl : Cond.fieldLink own index "GuardRoster" "output" "[C" ∈ gw) (hdg : decode cc pc = .ok (.getfield index, 3)) (kk : W p l e R s m args below meth c H locs cells slots Q (F0 m (pc + 3) ls (.ref (ga X 24) :: rest))) : W p l e R s m args below meth c H locs cells slots Q (F0 m pc ls (.ref (ga X 0) :: rest)) :=
  va_get (D := gD X) (ci := 0) (v := .ref (ga X 24)) (C := RX4) (T := TX4) (N := 12) hx hb ht in_0 hown hK hS.1 0 rfl rfl 6 (by decide) (ht _ hl) (fun _ h9 => h9) rfl hdg kk

theorem get_0_7 (hx : p.tables.exec = Jvm.exec) (hb : c.code = cc) (hown : s.vm.findClass own = some m.cls) (ht : ∀ w ∈ gw, w.before args s = true) (hK : va_K (gD X) cls (tysW X) s) (hS : WS X A H0 σ H locs) (hl : Cond.fieldLink own index "GuardRoster" "outputLength" "I" ∈ gw) (hdg : decode cc pc = .ok (.getfield index, 3)) (kk : W p l e R s m args below meth c H locs cells slots Q (F0 m (pc + 3) ls (.int (σ 0 7) :: rest))) : W p l e R s m args below meth c H locs cells slots Q (F0 m pc ls (.ref (ga X 0) :: rest)) :=
  va_get (D := gD X) (ci := 0) (v := .int (σ 0 7)) (C := RX4) (T := TX4) (N := 12) hx hb ht in_0 hown hK hS.1 0 rfl rfl 7 (by decide) (ht _ hl) (fun _ h9 => h9) rfl hdg kk

theorem put_0_7 (hx : p.tables.exec = Jvm.exec) (hb : c.code = cc) (hown : s.vm.findClass own = some m.cls) (ht : ∀ w ∈ gw, w.before args s = true) (hK : va_K (gD X) cls (tysW X) s) (hS : WS X A H0 σ H locs) {v : Int32} (hl : Cond.fieldLink own index "GuardRoster" "outputLength" "I" ∈ gw) (hdg : decode cc pc = .ok (.putfield index, 3)) (kk : ∀ (H : Heap) (locs : List Loc), WS X A H0 (st σ 0 7 v) H locs → W p l e R s m args below meth c H locs cells slots Q (F0 m (pc + 3) ls rest)) : W p l e R s m args below meth c H locs cells slots Q (F0 m pc ls (.int v :: .ref (ga X 0) :: rest)) :=
  va_put (D := gD X) (ci := 0) (v := .int v) (ty := .int) (C := RX4) (T := TX4) (N := 12) hx hb ht in_0 tyX4 tyX4_ok nmX4 hown hK hS.1 hS.2.1 hS.2.2 0 rfl rfl 7 (by decide) (ht _ hl) (fun _ h9 => h9) rfl (tyX4_ok 7 (by decide)) rfl rfl (Nat.le_of_ble_eq_true rfl) hdg (fun H locs hP hD hS => kk H locs ⟨hP, hD, hS⟩)

theorem get_0_8 (hx : p.tables.exec = Jvm.exec) (hb : c.code = cc) (hown : s.vm.findClass own = some m.cls) (ht : ∀ w ∈ gw, w.before args s = true) (hK : va_K (gD X) cls (tysW X) s) (hS : WS X A H0 σ H locs) (hl : Cond.fieldLink own index "GuardRoster" "latestReason" "I" ∈ gw) (hdg : decode cc pc = .ok (.getfield index, 3)) (kk : W p l e R s m args below meth c H locs cells slots Q (F0 m (pc + 3) ls (.int (σ 0 8) :: rest))) : W p l e R s m args below meth c H locs cells slots Q (F0 m pc ls (.ref (ga X 0) :: rest)) :=
  va_get (D := gD X) (ci := 0) (v := .int (σ 0 8)) (C := RX4) (T := TX4) (N := 12) hx hb ht in_0 hown hK hS.1 0 rfl rfl 8 (by decide) (ht _ hl) (fun _ h9 => h9) rfl hdg kk

theorem put_0_8 (hx : p.tables.exec = Jvm.exec) (hb : c.code = cc) (hown : s.vm.findClass own = some m.cls) (ht : ∀ w ∈ gw, w.before args s = true) (hK : va_K (gD X) cls (tysW X) s) (hS : WS X A H0 σ H locs) {v : Int32} (hl : Cond.fieldLink own index "GuardRoster" "latestReason" "I" ∈ gw) (hdg : decode cc pc = .ok (.putfield index, 3)) (kk : ∀ (H : Heap) (locs : List Loc), WS X A H0 (st σ 0 8 v) H locs → W p l e R s m args below meth c H locs cells slots Q (F0 m (pc + 3) ls rest)) : W p l e R s m args below meth c H locs cells slots Q (F0 m pc ls (.int v :: .ref (ga X 0) :: rest)) :=
  va_put (D := gD X) (ci := 0) (v := .int v) (ty := .int) (C := RX4) (T := TX4) (N := 12) hx hb ht in_0 tyX4 tyX4_ok nmX4 hown hK hS.1 hS.2.1 hS.2.2 0 rfl rfl 8 (by decide) (ht _ hl) (fun _ h9 => h9) rfl (tyX4_ok 8 (by decide)) rfl rfl (Nat.le_of_ble_eq_true rfl) hdg (fun H locs hP hD hS => kk H locs ⟨hP, hD, hS⟩)

theorem get_0_9 (hx : p.tables.exec = Jvm.exec) (hb : c.code = cc) (hown : s.vm.findClass own = some m.cls) (ht : ∀ w ∈ gw, w.before args s = true) (hK : va_K (gD X) cls (tysW X) s) (hS : WS X A H0 σ H locs) (hl : Cond.fieldLink own index "GuardRoster" "latestDetail" "I" ∈ gw) (hdg : decode cc pc = .ok (.getfield index, 3)) (kk : W p l e R s m args below meth c H locs cells slots Q (F0 m (pc + 3) ls (.int (σ 0 9) :: rest))) : W p l e R s m args below meth c H locs cells slots Q (F0 m pc ls (.ref (ga X 0) :: rest)) :=
  va_get (D := gD X) (ci := 0) (v := .int (σ 0 9)) (C := RX4) (T := TX4) (N := 12) hx hb ht in_0 hown hK hS.1 0 rfl rfl 9 (by decide) (ht _ hl) (fun _ h9 => h9) rfl hdg kk

theorem put_0_9 (hx : p.tables.exec = Jvm.exec) (hb : c.code = cc) (hown : s.vm.findClass own = some m.cls) (ht : ∀ w ∈ gw, w.before args s = true) (hK : va_K (gD X) cls (tysW X) s) (hS : WS X A H0 σ H locs) {v : Int32} (hl : Cond.fieldLink own index "GuardRoster" "latestDetail" "I" ∈ gw) (hdg : decode cc pc = .ok (.putfield index, 3)) (kk : ∀ (H : Heap) (locs : List Loc), WS X A H0 (st σ 0 9 v) H locs → W p l e R s m args below meth c H locs cells slots Q (F0 m (pc + 3) ls rest)) : W p l e R s m args below meth c H locs cells slots Q (F0 m pc ls (.int v :: .ref (ga X 0) :: rest)) :=
  va_put (D := gD X) (ci := 0) (v := .int v) (ty := .int) (C := RX4) (T := TX4) (N := 12) hx hb ht in_0 tyX4 tyX4_ok nmX4 hown hK hS.1 hS.2.1 hS.2.2 0 rfl rfl 9 (by decide) (ht _ hl) (fun _ h9 => h9) rfl (tyX4_ok 9 (by decide)) rfl rfl (Nat.le_of_ble_eq_true rfl) hdg (fun H locs hP hD hS => kk H locs ⟨hP, hD, hS⟩)

theorem get_0_10 (hx : p.tables.exec = Jvm.exec) (hb : c.code = cc) (hown : s.vm.findClass own = some m.cls) (ht : ∀ w ∈ gw, w.before args s = true) (hK : va_K (gD X) cls (tysW X) s) (hS : WS X A H0 σ H locs) (hl : Cond.fieldLink own index "GuardRoster" "latestErrorPosition" "I" ∈ gw) (hdg : decode cc pc = .ok (.getfield index, 3)) (kk : W p l e R s m args below meth c H locs cells slots Q (F0 m (pc + 3) ls (.int (σ 0 10) :: rest))) : W p l e R s m args below meth c H locs cells slots Q (F0 m pc ls (.ref (ga X 0) :: rest)) :=
  va_get (D := gD X) (ci := 0) (v := .int (σ 0 10)) (C := RX4) (T := TX4) (N := 12) hx hb ht in_0 hown hK hS.1 0 rfl rfl 10 (by decide) (ht _ hl) (fun _ h9 => h9) rfl hdg kk

theorem put_0_10 (hx : p.tables.exec = Jvm.exec) (hb : c.code = cc) (hown : s.vm.findClass own = some m.cls) (ht : ∀ w ∈ gw, w.before args s = true) (hK : va_K (gD X) cls (tysW X) s) (hS : WS X A H0 σ H locs) {v : Int32} (hl : Cond.fieldLink own index "GuardRoster" "latestErrorPosition" "I" ∈ gw) (hdg : decode cc pc = .ok (.putfield index, 3)) (kk : ∀ (H : Heap) (locs : List Loc), WS X A H0 (st σ 0 10 v) H locs → W p l e R s m args below meth c H locs cells slots Q (F0 m (pc + 3) ls rest)) : W p l e R s m args below meth c H locs cells slots Q (F0 m pc ls (.int v :: .ref (ga X 0) :: rest)) :=
  va_put (D := gD X) (ci := 0) (v := .int v) (ty := .int) (C := RX4) (T := TX4) (N := 12) hx hb ht in_0 tyX4 tyX4_ok nmX4 hown hK hS.1 hS.2.1 hS.2.2 0 rfl rfl 10 (by decide) (ht _ hl) (fun _ h9 => h9) rfl (tyX4_ok 10 (by decide)) rfl rfl (Nat.le_of_ble_eq_true rfl) hdg (fun H locs hP hD hS => kk H locs ⟨hP, hD, hS⟩)

theorem get_0_11 (hx : p.tables.exec = Jvm.exec) (hb : c.code = cc) (hown : s.vm.findClass own = some m.cls) (ht : ∀ w ∈ gw, w.before args s = true) (hK : va_K (gD X) cls (tysW X) s) (hS : WS X A H0 σ H locs) (hl : Cond.fieldLink own index "GuardRoster" "latestFailedCommand" "I" ∈ gw) (hdg : decode cc pc = .ok (.getfield index, 3)) (kk : W p l e R s m args below meth c H locs cells slots Q (F0 m (pc + 3) ls (.int (σ 0 11) :: rest))) : W p l e R s m args below meth c H locs cells slots Q (F0 m pc ls (.ref (ga X 0) :: rest)) :=
  va_get (D := gD X) (ci := 0) (v := .int (σ 0 11)) (C := RX4) (T := TX4) (N := 12) hx hb ht in_0 hown hK hS.1 0 rfl rfl 11 (by decide) (ht _ hl) (fun _ h9 => h9) rfl hdg kk

theorem put_0_11 (hx : p.tables.exec = Jvm.exec) (hb : c.code = cc) (hown : s.vm.findClass own = some m.cls) (ht : ∀ w ∈ gw, w.before args s = true) (hK : va_K (gD X) cls (tysW X) s) (hS : WS X A H0 σ H locs) {v : Int32} (hl : Cond.fieldLink own index "GuardRoster" "latestFailedCommand" "I" ∈ gw) (hdg : decode cc pc = .ok (.putfield index, 3)) (kk : ∀ (H : Heap) (locs : List Loc), WS X A H0 (st σ 0 11 v) H locs → W p l e R s m args below meth c H locs cells slots Q (F0 m (pc + 3) ls rest)) : W p l e R s m args below meth c H locs cells slots Q (F0 m pc ls (.int v :: .ref (ga X 0) :: rest)) :=
  va_put (D := gD X) (ci := 0) (v := .int v) (ty := .int) (C := RX4) (T := TX4) (N := 12) hx hb ht in_0 tyX4 tyX4_ok nmX4 hown hK hS.1 hS.2.1 hS.2.2 0 rfl rfl 11 (by decide) (ht _ hl) (fun _ h9 => h9) rfl (tyX4_ok 11 (by decide)) rfl rfl (Nat.le_of_ble_eq_true rfl) hdg (fun H locs hP hD hS => kk H locs ⟨hP, hD, hS⟩)

theorem get_1_0 (hx : p.tables.exec = Jvm.exec) (hb : c.code = cc) (hown : s.vm.findClass own = some m.cls) (ht : ∀ w ∈ gw, w.before args s = true) (hK : va_K (gD X) cls (tysW X) s) (hS : WS X A H0 σ H locs) (hl : Cond.fieldLink own index "GuardRoster$Roster" "cells" "[I" ∈ gw) (hdg : decode cc pc = .ok (.getfield index, 3)) (kk : W p l e R s m args below meth c H locs cells slots Q (F0 m (pc + 3) ls (.ref (ga X 2) :: rest))) : W p l e R s m args below meth c H locs cells slots Q (F0 m pc ls (.ref (ga X 1) :: rest)) :=
  va_get (D := gD X) (ci := 1) (v := .ref (ga X 2)) (C := RX2) (T := TX2) (N := 2) hx hb ht in_1 hown hK hS.1 1 rfl rfl 0 (by decide) (ht _ hl) (fun _ h9 => h9) rfl hdg kk

theorem get_1_1 (hx : p.tables.exec = Jvm.exec) (hb : c.code = cc) (hown : s.vm.findClass own = some m.cls) (ht : ∀ w ∈ gw, w.before args s = true) (hK : va_K (gD X) cls (tysW X) s) (hS : WS X A H0 σ H locs) (hl : Cond.fieldLink own index "GuardRoster$Roster" "orderKeys" "[I" ∈ gw) (hdg : decode cc pc = .ok (.getfield index, 3)) (kk : W p l e R s m args below meth c H locs cells slots Q (F0 m (pc + 3) ls (.ref (ga X 3) :: rest))) : W p l e R s m args below meth c H locs cells slots Q (F0 m pc ls (.ref (ga X 1) :: rest)) :=
  va_get (D := gD X) (ci := 1) (v := .ref (ga X 3)) (C := RX2) (T := TX2) (N := 2) hx hb ht in_1 hown hK hS.1 1 rfl rfl 1 (by decide) (ht _ hl) (fun _ h9 => h9) rfl hdg kk

theorem get_4_0 (hx : p.tables.exec = Jvm.exec) (hb : c.code = cc) (hown : s.vm.findClass own = some m.cls) (ht : ∀ w ∈ gw, w.before args s = true) (hK : va_K (gD X) cls (tysW X) s) (hS : WS X A H0 σ H locs) (hl : Cond.fieldLink own index "GuardRoster$History" "rows" "[[I" ∈ gw) (hdg : decode cc pc = .ok (.getfield index, 3)) (kk : W p l e R s m args below meth c H locs cells slots Q (F0 m (pc + 3) ls (.ref (ga X 5) :: rest))) : W p l e R s m args below meth c H locs cells slots Q (F0 m pc ls (.ref (ga X 4) :: rest)) :=
  va_get (D := gD X) (ci := 2) (v := .ref (ga X 5)) (C := RX1) (T := TX1) (N := 3) hx hb ht in_2 hown hK hS.1 4 rfl rfl 0 (by decide) (ht _ hl) (fun _ h9 => h9) rfl hdg kk

theorem get_4_1 (hx : p.tables.exec = Jvm.exec) (hb : c.code = cc) (hown : s.vm.findClass own = some m.cls) (ht : ∀ w ∈ gw, w.before args s = true) (hK : va_K (gD X) cls (tysW X) s) (hS : WS X A H0 σ H locs) (hl : Cond.fieldLink own index "GuardRoster$History" "next" "I" ∈ gw) (hdg : decode cc pc = .ok (.getfield index, 3)) (kk : W p l e R s m args below meth c H locs cells slots Q (F0 m (pc + 3) ls (.int (σ 4 1) :: rest))) : W p l e R s m args below meth c H locs cells slots Q (F0 m pc ls (.ref (ga X 4) :: rest)) :=
  va_get (D := gD X) (ci := 2) (v := .int (σ 4 1)) (C := RX1) (T := TX1) (N := 3) hx hb ht in_2 hown hK hS.1 4 rfl rfl 1 (by decide) (ht _ hl) (fun _ h9 => h9) rfl hdg kk

theorem put_4_1 (hx : p.tables.exec = Jvm.exec) (hb : c.code = cc) (hown : s.vm.findClass own = some m.cls) (ht : ∀ w ∈ gw, w.before args s = true) (hK : va_K (gD X) cls (tysW X) s) (hS : WS X A H0 σ H locs) {v : Int32} (hl : Cond.fieldLink own index "GuardRoster$History" "next" "I" ∈ gw) (hdg : decode cc pc = .ok (.putfield index, 3)) (kk : ∀ (H : Heap) (locs : List Loc), WS X A H0 (st σ 4 1 v) H locs → W p l e R s m args below meth c H locs cells slots Q (F0 m (pc + 3) ls rest)) : W p l e R s m args below meth c H locs cells slots Q (F0 m pc ls (.int v :: .ref (ga X 4) :: rest)) :=
  va_put (D := gD X) (ci := 2) (v := .int v) (ty := .int) (C := RX1) (T := TX1) (N := 3) hx hb ht in_2 tyX1 tyX1_ok nmX1 hown hK hS.1 hS.2.1 hS.2.2 4 rfl rfl 1 (by decide) (ht _ hl) (fun _ h9 => h9) rfl (tyX1_ok 1 (by decide)) rfl rfl (Nat.le_of_ble_eq_true rfl) hdg (fun H locs hP hD hS => kk H locs ⟨hP, hD, hS⟩)

theorem get_4_2 (hx : p.tables.exec = Jvm.exec) (hb : c.code = cc) (hown : s.vm.findClass own = some m.cls) (ht : ∀ w ∈ gw, w.before args s = true) (hK : va_K (gD X) cls (tysW X) s) (hS : WS X A H0 σ H locs) (hl : Cond.fieldLink own index "GuardRoster$History" "size" "I" ∈ gw) (hdg : decode cc pc = .ok (.getfield index, 3)) (kk : W p l e R s m args below meth c H locs cells slots Q (F0 m (pc + 3) ls (.int (σ 4 2) :: rest))) : W p l e R s m args below meth c H locs cells slots Q (F0 m pc ls (.ref (ga X 4) :: rest)) :=
  va_get (D := gD X) (ci := 2) (v := .int (σ 4 2)) (C := RX1) (T := TX1) (N := 3) hx hb ht in_2 hown hK hS.1 4 rfl rfl 2 (by decide) (ht _ hl) (fun _ h9 => h9) rfl hdg kk

theorem put_4_2 (hx : p.tables.exec = Jvm.exec) (hb : c.code = cc) (hown : s.vm.findClass own = some m.cls) (ht : ∀ w ∈ gw, w.before args s = true) (hK : va_K (gD X) cls (tysW X) s) (hS : WS X A H0 σ H locs) {v : Int32} (hl : Cond.fieldLink own index "GuardRoster$History" "size" "I" ∈ gw) (hdg : decode cc pc = .ok (.putfield index, 3)) (kk : ∀ (H : Heap) (locs : List Loc), WS X A H0 (st σ 4 2 v) H locs → W p l e R s m args below meth c H locs cells slots Q (F0 m (pc + 3) ls rest)) : W p l e R s m args below meth c H locs cells slots Q (F0 m pc ls (.int v :: .ref (ga X 4) :: rest)) :=
  va_put (D := gD X) (ci := 2) (v := .int v) (ty := .int) (C := RX1) (T := TX1) (N := 3) hx hb ht in_2 tyX1 tyX1_ok nmX1 hown hK hS.1 hS.2.1 hS.2.2 4 rfl rfl 2 (by decide) (ht _ hl) (fun _ h9 => h9) rfl (tyX1_ok 2 (by decide)) rfl rfl (Nat.le_of_ble_eq_true rfl) hdg (fun H locs hP hD hS => kk H locs ⟨hP, hD, hS⟩)

theorem get_15_0 (hx : p.tables.exec = Jvm.exec) (hb : c.code = cc) (hown : s.vm.findClass own = some m.cls) (ht : ∀ w ∈ gw, w.before args s = true) (hK : va_K (gD X) cls (tysW X) s) (hS : WS X A H0 σ H locs) (hl : Cond.fieldLink own index "GuardRoster$SlotPlan" "fits" "[I" ∈ gw) (hdg : decode cc pc = .ok (.getfield index, 3)) (kk : W p l e R s m args below meth c H locs cells slots Q (F0 m (pc + 3) ls (.ref (ga X 16) :: rest))) : W p l e R s m args below meth c H locs cells slots Q (F0 m pc ls (.ref (ga X 15) :: rest)) :=
  va_get (D := gD X) (ci := 3) (v := .ref (ga X 16)) (C := RX3) (T := TX3) (N := 4) hx hb ht in_3 hown hK hS.1 15 rfl rfl 0 (by decide) (ht _ hl) (fun _ h9 => h9) rfl hdg kk

theorem get_15_1 (hx : p.tables.exec = Jvm.exec) (hb : c.code = cc) (hown : s.vm.findClass own = some m.cls) (ht : ∀ w ∈ gw, w.before args s = true) (hK : va_K (gD X) cls (tysW X) s) (hS : WS X A H0 σ H locs) (hl : Cond.fieldLink own index "GuardRoster$SlotPlan" "gateGiven" "[I" ∈ gw) (hdg : decode cc pc = .ok (.getfield index, 3)) (kk : W p l e R s m args below meth c H locs cells slots Q (F0 m (pc + 3) ls (.ref (ga X 17) :: rest))) : W p l e R s m args below meth c H locs cells slots Q (F0 m pc ls (.ref (ga X 15) :: rest)) :=
  va_get (D := gD X) (ci := 3) (v := .ref (ga X 17)) (C := RX3) (T := TX3) (N := 4) hx hb ht in_3 hown hK hS.1 15 rfl rfl 1 (by decide) (ht _ hl) (fun _ h9 => h9) rfl hdg kk

theorem get_15_2 (hx : p.tables.exec = Jvm.exec) (hb : c.code = cc) (hown : s.vm.findClass own = some m.cls) (ht : ∀ w ∈ gw, w.before args s = true) (hK : va_K (gD X) cls (tysW X) s) (hS : WS X A H0 σ H locs) (hl : Cond.fieldLink own index "GuardRoster$SlotPlan" "triedGuards" "I" ∈ gw) (hdg : decode cc pc = .ok (.getfield index, 3)) (kk : W p l e R s m args below meth c H locs cells slots Q (F0 m (pc + 3) ls (.int (σ 15 2) :: rest))) : W p l e R s m args below meth c H locs cells slots Q (F0 m pc ls (.ref (ga X 15) :: rest)) :=
  va_get (D := gD X) (ci := 3) (v := .int (σ 15 2)) (C := RX3) (T := TX3) (N := 4) hx hb ht in_3 hown hK hS.1 15 rfl rfl 2 (by decide) (ht _ hl) (fun _ h9 => h9) rfl hdg kk

theorem put_15_2 (hx : p.tables.exec = Jvm.exec) (hb : c.code = cc) (hown : s.vm.findClass own = some m.cls) (ht : ∀ w ∈ gw, w.before args s = true) (hK : va_K (gD X) cls (tysW X) s) (hS : WS X A H0 σ H locs) {v : Int32} (hl : Cond.fieldLink own index "GuardRoster$SlotPlan" "triedGuards" "I" ∈ gw) (hdg : decode cc pc = .ok (.putfield index, 3)) (kk : ∀ (H : Heap) (locs : List Loc), WS X A H0 (st σ 15 2 v) H locs → W p l e R s m args below meth c H locs cells slots Q (F0 m (pc + 3) ls rest)) : W p l e R s m args below meth c H locs cells slots Q (F0 m pc ls (.int v :: .ref (ga X 15) :: rest)) :=
  va_put (D := gD X) (ci := 3) (v := .int v) (ty := .int) (C := RX3) (T := TX3) (N := 4) hx hb ht in_3 tyX3 tyX3_ok nmX3 hown hK hS.1 hS.2.1 hS.2.2 15 rfl rfl 2 (by decide) (ht _ hl) (fun _ h9 => h9) rfl (tyX3_ok 2 (by decide)) rfl rfl (Nat.le_of_ble_eq_true rfl) hdg (fun H locs hP hD hS => kk H locs ⟨hP, hD, hS⟩)

theorem get_15_3 (hx : p.tables.exec = Jvm.exec) (hb : c.code = cc) (hown : s.vm.findClass own = some m.cls) (ht : ∀ w ∈ gw, w.before args s = true) (hK : va_K (gD X) cls (tysW X) s) (hS : WS X A H0 σ H locs) (hl : Cond.fieldLink own index "GuardRoster$SlotPlan" "guardsOfSet" "[I" ∈ gw) (hdg : decode cc pc = .ok (.getfield index, 3)) (kk : W p l e R s m args below meth c H locs cells slots Q (F0 m (pc + 3) ls (.ref (ga X 18) :: rest))) : W p l e R s m args below meth c H locs cells slots Q (F0 m pc ls (.ref (ga X 15) :: rest)) :=
  va_get (D := gD X) (ci := 3) (v := .ref (ga X 18)) (C := RX3) (T := TX3) (N := 4) hx hb ht in_3 hown hK hS.1 15 rfl rfl 3 (by decide) (ht _ hl) (fun _ h9 => h9) rfl hdg kk

theorem get_19_0 (hx : p.tables.exec = Jvm.exec) (hb : c.code = cc) (hown : s.vm.findClass own = some m.cls) (ht : ∀ w ∈ gw, w.before args s = true) (hK : va_K (gD X) cls (tysW X) s) (hS : WS X A H0 σ H locs) (hl : Cond.fieldLink own index "GuardRoster$CommandText" "characters" "[C" ∈ gw) (hdg : decode cc pc = .ok (.getfield index, 3)) (kk : W p l e R s m args below meth c H locs cells slots Q (F0 m (pc + 3) ls (.ref (ga X 20) :: rest))) : W p l e R s m args below meth c H locs cells slots Q (F0 m pc ls (.ref (ga X 19) :: rest)) :=
  va_get (D := gD X) (ci := 4) (v := .ref (ga X 20)) (C := RX0) (T := TX0) (N := 6) hx hb ht in_4 hown hK hS.1 19 rfl rfl 0 (by decide) (ht _ hl) (fun _ h9 => h9) rfl hdg kk

theorem get_19_1 (hx : p.tables.exec = Jvm.exec) (hb : c.code = cc) (hown : s.vm.findClass own = some m.cls) (ht : ∀ w ∈ gw, w.before args s = true) (hK : va_K (gD X) cls (tysW X) s) (hS : WS X A H0 σ H locs) (hl : Cond.fieldLink own index "GuardRoster$CommandText" "length" "I" ∈ gw) (hdg : decode cc pc = .ok (.getfield index, 3)) (kk : W p l e R s m args below meth c H locs cells slots Q (F0 m (pc + 3) ls (.int (σ 19 1) :: rest))) : W p l e R s m args below meth c H locs cells slots Q (F0 m pc ls (.ref (ga X 19) :: rest)) :=
  va_get (D := gD X) (ci := 4) (v := .int (σ 19 1)) (C := RX0) (T := TX0) (N := 6) hx hb ht in_4 hown hK hS.1 19 rfl rfl 1 (by decide) (ht _ hl) (fun _ h9 => h9) rfl hdg kk

theorem put_19_1 (hx : p.tables.exec = Jvm.exec) (hb : c.code = cc) (hown : s.vm.findClass own = some m.cls) (ht : ∀ w ∈ gw, w.before args s = true) (hK : va_K (gD X) cls (tysW X) s) (hS : WS X A H0 σ H locs) {v : Int32} (hl : Cond.fieldLink own index "GuardRoster$CommandText" "length" "I" ∈ gw) (hdg : decode cc pc = .ok (.putfield index, 3)) (kk : ∀ (H : Heap) (locs : List Loc), WS X A H0 (st σ 19 1 v) H locs → W p l e R s m args below meth c H locs cells slots Q (F0 m (pc + 3) ls rest)) : W p l e R s m args below meth c H locs cells slots Q (F0 m pc ls (.int v :: .ref (ga X 19) :: rest)) :=
  va_put (D := gD X) (ci := 4) (v := .int v) (ty := .int) (C := RX0) (T := TX0) (N := 6) hx hb ht in_4 tyX0 tyX0_ok nmX0 hown hK hS.1 hS.2.1 hS.2.2 19 rfl rfl 1 (by decide) (ht _ hl) (fun _ h9 => h9) rfl (tyX0_ok 1 (by decide)) rfl rfl (Nat.le_of_ble_eq_true rfl) hdg (fun H locs hP hD hS => kk H locs ⟨hP, hD, hS⟩)

theorem get_19_2 (hx : p.tables.exec = Jvm.exec) (hb : c.code = cc) (hown : s.vm.findClass own = some m.cls) (ht : ∀ w ∈ gw, w.before args s = true) (hK : va_K (gD X) cls (tysW X) s) (hS : WS X A H0 σ H locs) (hl : Cond.fieldLink own index "GuardRoster$CommandText" "kinds" "[I" ∈ gw) (hdg : decode cc pc = .ok (.getfield index, 3)) (kk : W p l e R s m args below meth c H locs cells slots Q (F0 m (pc + 3) ls (.ref (ga X 21) :: rest))) : W p l e R s m args below meth c H locs cells slots Q (F0 m pc ls (.ref (ga X 19) :: rest)) :=
  va_get (D := gD X) (ci := 4) (v := .ref (ga X 21)) (C := RX0) (T := TX0) (N := 6) hx hb ht in_4 hown hK hS.1 19 rfl rfl 2 (by decide) (ht _ hl) (fun _ h9 => h9) rfl hdg kk

theorem get_19_3 (hx : p.tables.exec = Jvm.exec) (hb : c.code = cc) (hown : s.vm.findClass own = some m.cls) (ht : ∀ w ∈ gw, w.before args s = true) (hK : va_K (gD X) cls (tysW X) s) (hS : WS X A H0 σ H locs) (hl : Cond.fieldLink own index "GuardRoster$CommandText" "values" "[I" ∈ gw) (hdg : decode cc pc = .ok (.getfield index, 3)) (kk : W p l e R s m args below meth c H locs cells slots Q (F0 m (pc + 3) ls (.ref (ga X 22) :: rest))) : W p l e R s m args below meth c H locs cells slots Q (F0 m pc ls (.ref (ga X 19) :: rest)) :=
  va_get (D := gD X) (ci := 4) (v := .ref (ga X 22)) (C := RX0) (T := TX0) (N := 6) hx hb ht in_4 hown hK hS.1 19 rfl rfl 3 (by decide) (ht _ hl) (fun _ h9 => h9) rfl hdg kk

theorem get_19_4 (hx : p.tables.exec = Jvm.exec) (hb : c.code = cc) (hown : s.vm.findClass own = some m.cls) (ht : ∀ w ∈ gw, w.before args s = true) (hK : va_K (gD X) cls (tysW X) s) (hS : WS X A H0 σ H locs) (hl : Cond.fieldLink own index "GuardRoster$CommandText" "count" "I" ∈ gw) (hdg : decode cc pc = .ok (.getfield index, 3)) (kk : W p l e R s m args below meth c H locs cells slots Q (F0 m (pc + 3) ls (.int (σ 19 4) :: rest))) : W p l e R s m args below meth c H locs cells slots Q (F0 m pc ls (.ref (ga X 19) :: rest)) :=
  va_get (D := gD X) (ci := 4) (v := .int (σ 19 4)) (C := RX0) (T := TX0) (N := 6) hx hb ht in_4 hown hK hS.1 19 rfl rfl 4 (by decide) (ht _ hl) (fun _ h9 => h9) rfl hdg kk

theorem put_19_4 (hx : p.tables.exec = Jvm.exec) (hb : c.code = cc) (hown : s.vm.findClass own = some m.cls) (ht : ∀ w ∈ gw, w.before args s = true) (hK : va_K (gD X) cls (tysW X) s) (hS : WS X A H0 σ H locs) {v : Int32} (hl : Cond.fieldLink own index "GuardRoster$CommandText" "count" "I" ∈ gw) (hdg : decode cc pc = .ok (.putfield index, 3)) (kk : ∀ (H : Heap) (locs : List Loc), WS X A H0 (st σ 19 4 v) H locs → W p l e R s m args below meth c H locs cells slots Q (F0 m (pc + 3) ls rest)) : W p l e R s m args below meth c H locs cells slots Q (F0 m pc ls (.int v :: .ref (ga X 19) :: rest)) :=
  va_put (D := gD X) (ci := 4) (v := .int v) (ty := .int) (C := RX0) (T := TX0) (N := 6) hx hb ht in_4 tyX0 tyX0_ok nmX0 hown hK hS.1 hS.2.1 hS.2.2 19 rfl rfl 4 (by decide) (ht _ hl) (fun _ h9 => h9) rfl (tyX0_ok 4 (by decide)) rfl rfl (Nat.le_of_ble_eq_true rfl) hdg (fun H locs hP hD hS => kk H locs ⟨hP, hD, hS⟩)

theorem get_19_5 (hx : p.tables.exec = Jvm.exec) (hb : c.code = cc) (hown : s.vm.findClass own = some m.cls) (ht : ∀ w ∈ gw, w.before args s = true) (hK : va_K (gD X) cls (tysW X) s) (hS : WS X A H0 σ H locs) (hl : Cond.fieldLink own index "GuardRoster$CommandText" "wrong" "I" ∈ gw) (hdg : decode cc pc = .ok (.getfield index, 3)) (kk : W p l e R s m args below meth c H locs cells slots Q (F0 m (pc + 3) ls (.int (σ 19 5) :: rest))) : W p l e R s m args below meth c H locs cells slots Q (F0 m pc ls (.ref (ga X 19) :: rest)) :=
  va_get (D := gD X) (ci := 4) (v := .int (σ 19 5)) (C := RX0) (T := TX0) (N := 6) hx hb ht in_4 hown hK hS.1 19 rfl rfl 5 (by decide) (ht _ hl) (fun _ h9 => h9) rfl hdg kk

theorem put_19_5 (hx : p.tables.exec = Jvm.exec) (hb : c.code = cc) (hown : s.vm.findClass own = some m.cls) (ht : ∀ w ∈ gw, w.before args s = true) (hK : va_K (gD X) cls (tysW X) s) (hS : WS X A H0 σ H locs) {v : Int32} (hl : Cond.fieldLink own index "GuardRoster$CommandText" "wrong" "I" ∈ gw) (hdg : decode cc pc = .ok (.putfield index, 3)) (kk : ∀ (H : Heap) (locs : List Loc), WS X A H0 (st σ 19 5 v) H locs → W p l e R s m args below meth c H locs cells slots Q (F0 m (pc + 3) ls rest)) : W p l e R s m args below meth c H locs cells slots Q (F0 m pc ls (.int v :: .ref (ga X 19) :: rest)) :=
  va_put (D := gD X) (ci := 4) (v := .int v) (ty := .int) (C := RX0) (T := TX0) (N := 6) hx hb ht in_4 tyX0 tyX0_ok nmX0 hown hK hS.1 hS.2.1 hS.2.2 19 rfl rfl 5 (by decide) (ht _ hl) (fun _ h9 => h9) rfl (tyX0_ok 5 (by decide)) rfl rfl (Nat.le_of_ble_eq_true rfl) hdg (fun H locs hP hD hS => kk H locs ⟨hP, hD, hS⟩)

theorem get_25_0 (hx : p.tables.exec = Jvm.exec) (hb : c.code = cc) (hown : s.vm.findClass own = some m.cls) (ht : ∀ w ∈ gw, w.before args s = true) (hK : va_K (gD X) cls (tysW X) s) (hS : WS X A H0 σ H locs) (hl : Cond.fieldLink own index "GuardRosterModel" "g" "[I" ∈ gw) (hdg : decode cc pc = .ok (.getfield index, 3)) (kk : W p l e R s m args below meth c H locs cells slots Q (F0 m (pc + 3) ls (.ref (ga X 26) :: rest))) : W p l e R s m args below meth c H locs cells slots Q (F0 m pc ls (.ref (ga X 25) :: rest)) :=
  va_get (D := gD X) (ci := 5) (v := .ref (ga X 26)) (C := RX5) (T := TX5) (N := 21) hx hb ht in_5 hown hK hS.1 25 rfl rfl 0 (by decide) (ht _ hl) (fun _ h9 => h9) rfl hdg kk

theorem get_25_1 (hx : p.tables.exec = Jvm.exec) (hb : c.code = cc) (hown : s.vm.findClass own = some m.cls) (ht : ∀ w ∈ gw, w.before args s = true) (hK : va_K (gD X) cls (tysW X) s) (hS : WS X A H0 σ H locs) (hl : Cond.fieldLink own index "GuardRosterModel" "kept" "[I" ∈ gw) (hdg : decode cc pc = .ok (.getfield index, 3)) (kk : W p l e R s m args below meth c H locs cells slots Q (F0 m (pc + 3) ls (.ref (ga X 27) :: rest))) : W p l e R s m args below meth c H locs cells slots Q (F0 m pc ls (.ref (ga X 25) :: rest)) :=
  va_get (D := gD X) (ci := 5) (v := .ref (ga X 27)) (C := RX5) (T := TX5) (N := 21) hx hb ht in_5 hown hK hS.1 25 rfl rfl 1 (by decide) (ht _ hl) (fun _ h9 => h9) rfl hdg kk

theorem get_25_2 (hx : p.tables.exec = Jvm.exec) (hb : c.code = cc) (hown : s.vm.findClass own = some m.cls) (ht : ∀ w ∈ gw, w.before args s = true) (hK : va_K (gD X) cls (tysW X) s) (hS : WS X A H0 σ H locs) (hl : Cond.fieldLink own index "GuardRosterModel" "saved" "[I" ∈ gw) (hdg : decode cc pc = .ok (.getfield index, 3)) (kk : W p l e R s m args below meth c H locs cells slots Q (F0 m (pc + 3) ls (.ref (ga X 28) :: rest))) : W p l e R s m args below meth c H locs cells slots Q (F0 m pc ls (.ref (ga X 25) :: rest)) :=
  va_get (D := gD X) (ci := 5) (v := .ref (ga X 28)) (C := RX5) (T := TX5) (N := 21) hx hb ht in_5 hown hK hS.1 25 rfl rfl 2 (by decide) (ht _ hl) (fun _ h9 => h9) rfl hdg kk

theorem get_25_3 (hx : p.tables.exec = Jvm.exec) (hb : c.code = cc) (hown : s.vm.findClass own = some m.cls) (ht : ∀ w ∈ gw, w.before args s = true) (hK : va_K (gD X) cls (tysW X) s) (hS : WS X A H0 σ H locs) (hl : Cond.fieldLink own index "GuardRosterModel" "before" "[I" ∈ gw) (hdg : decode cc pc = .ok (.getfield index, 3)) (kk : W p l e R s m args below meth c H locs cells slots Q (F0 m (pc + 3) ls (.ref (ga X 29) :: rest))) : W p l e R s m args below meth c H locs cells slots Q (F0 m pc ls (.ref (ga X 25) :: rest)) :=
  va_get (D := gD X) (ci := 5) (v := .ref (ga X 29)) (C := RX5) (T := TX5) (N := 21) hx hb ht in_5 hown hK hS.1 25 rfl rfl 3 (by decide) (ht _ hl) (fun _ h9 => h9) rfl hdg kk

theorem get_25_4 (hx : p.tables.exec = Jvm.exec) (hb : c.code = cc) (hown : s.vm.findClass own = some m.cls) (ht : ∀ w ∈ gw, w.before args s = true) (hK : va_K (gD X) cls (tysW X) s) (hS : WS X A H0 σ H locs) (hl : Cond.fieldLink own index "GuardRosterModel" "isSaved" "Z" ∈ gw) (hdg : decode cc pc = .ok (.getfield index, 3)) (kk : W p l e R s m args below meth c H locs cells slots Q (F0 m (pc + 3) ls (.int (σ 25 4) :: rest))) : W p l e R s m args below meth c H locs cells slots Q (F0 m pc ls (.ref (ga X 25) :: rest)) :=
  va_get (D := gD X) (ci := 5) (v := .int (σ 25 4)) (C := RX5) (T := TX5) (N := 21) hx hb ht in_5 hown hK hS.1 25 rfl rfl 4 (by decide) (ht _ hl) (fun _ h9 => h9) rfl hdg kk

theorem put_25_4 (hx : p.tables.exec = Jvm.exec) (hb : c.code = cc) (hown : s.vm.findClass own = some m.cls) (ht : ∀ w ∈ gw, w.before args s = true) (hK : va_K (gD X) cls (tysW X) s) (hS : WS X A H0 σ H locs) {v : Int32} (hn : narrow .boolean (.int v) = .int v) (hf : fits .boolean (.int v) = true) (hl : Cond.fieldLink own index "GuardRosterModel" "isSaved" "Z" ∈ gw) (hdg : decode cc pc = .ok (.putfield index, 3)) (kk : ∀ (H : Heap) (locs : List Loc), WS X A H0 (st σ 25 4 v) H locs → W p l e R s m args below meth c H locs cells slots Q (F0 m (pc + 3) ls rest)) : W p l e R s m args below meth c H locs cells slots Q (F0 m pc ls (.int v :: .ref (ga X 25) :: rest)) :=
  va_put (D := gD X) (ci := 5) (v := .int v) (ty := .boolean) (C := RX5) (T := TX5) (N := 21) hx hb ht in_5 tyX5 tyX5_ok nmX5 hown hK hS.1 hS.2.1 hS.2.2 25 rfl rfl 4 (by decide) (ht _ hl) (fun _ h9 => h9) rfl (tyX5_ok 4 (by decide)) hn hf (Nat.le_of_ble_eq_true rfl) hdg (fun H locs hP hD hS => kk H locs ⟨hP, hD, hS⟩)

theorem get_25_5 (hx : p.tables.exec = Jvm.exec) (hb : c.code = cc) (hown : s.vm.findClass own = some m.cls) (ht : ∀ w ∈ gw, w.before args s = true) (hK : va_K (gD X) cls (tysW X) s) (hS : WS X A H0 σ H locs) (hl : Cond.fieldLink own index "GuardRosterModel" "changes" "I" ∈ gw) (hdg : decode cc pc = .ok (.getfield index, 3)) (kk : W p l e R s m args below meth c H locs cells slots Q (F0 m (pc + 3) ls (.int (σ 25 5) :: rest))) : W p l e R s m args below meth c H locs cells slots Q (F0 m pc ls (.ref (ga X 25) :: rest)) :=
  va_get (D := gD X) (ci := 5) (v := .int (σ 25 5)) (C := RX5) (T := TX5) (N := 21) hx hb ht in_5 hown hK hS.1 25 rfl rfl 5 (by decide) (ht _ hl) (fun _ h9 => h9) rfl hdg kk

theorem put_25_5 (hx : p.tables.exec = Jvm.exec) (hb : c.code = cc) (hown : s.vm.findClass own = some m.cls) (ht : ∀ w ∈ gw, w.before args s = true) (hK : va_K (gD X) cls (tysW X) s) (hS : WS X A H0 σ H locs) {v : Int32} (hl : Cond.fieldLink own index "GuardRosterModel" "changes" "I" ∈ gw) (hdg : decode cc pc = .ok (.putfield index, 3)) (kk : ∀ (H : Heap) (locs : List Loc), WS X A H0 (st σ 25 5 v) H locs → W p l e R s m args below meth c H locs cells slots Q (F0 m (pc + 3) ls rest)) : W p l e R s m args below meth c H locs cells slots Q (F0 m pc ls (.int v :: .ref (ga X 25) :: rest)) :=
  va_put (D := gD X) (ci := 5) (v := .int v) (ty := .int) (C := RX5) (T := TX5) (N := 21) hx hb ht in_5 tyX5 tyX5_ok nmX5 hown hK hS.1 hS.2.1 hS.2.2 25 rfl rfl 5 (by decide) (ht _ hl) (fun _ h9 => h9) rfl (tyX5_ok 5 (by decide)) rfl rfl (Nat.le_of_ble_eq_true rfl) hdg (fun H locs hP hD hS => kk H locs ⟨hP, hD, hS⟩)

theorem get_25_6 (hx : p.tables.exec = Jvm.exec) (hb : c.code = cc) (hown : s.vm.findClass own = some m.cls) (ht : ∀ w ∈ gw, w.before args s = true) (hK : va_K (gD X) cls (tysW X) s) (hS : WS X A H0 σ H locs) (hl : Cond.fieldLink own index "GuardRosterModel" "isWithin" "Z" ∈ gw) (hdg : decode cc pc = .ok (.getfield index, 3)) (kk : W p l e R s m args below meth c H locs cells slots Q (F0 m (pc + 3) ls (.int (σ 25 6) :: rest))) : W p l e R s m args below meth c H locs cells slots Q (F0 m pc ls (.ref (ga X 25) :: rest)) :=
  va_get (D := gD X) (ci := 5) (v := .int (σ 25 6)) (C := RX5) (T := TX5) (N := 21) hx hb ht in_5 hown hK hS.1 25 rfl rfl 6 (by decide) (ht _ hl) (fun _ h9 => h9) rfl hdg kk

theorem put_25_6 (hx : p.tables.exec = Jvm.exec) (hb : c.code = cc) (hown : s.vm.findClass own = some m.cls) (ht : ∀ w ∈ gw, w.before args s = true) (hK : va_K (gD X) cls (tysW X) s) (hS : WS X A H0 σ H locs) {v : Int32} (hn : narrow .boolean (.int v) = .int v) (hf : fits .boolean (.int v) = true) (hl : Cond.fieldLink own index "GuardRosterModel" "isWithin" "Z" ∈ gw) (hdg : decode cc pc = .ok (.putfield index, 3)) (kk : ∀ (H : Heap) (locs : List Loc), WS X A H0 (st σ 25 6 v) H locs → W p l e R s m args below meth c H locs cells slots Q (F0 m (pc + 3) ls rest)) : W p l e R s m args below meth c H locs cells slots Q (F0 m pc ls (.int v :: .ref (ga X 25) :: rest)) :=
  va_put (D := gD X) (ci := 5) (v := .int v) (ty := .boolean) (C := RX5) (T := TX5) (N := 21) hx hb ht in_5 tyX5 tyX5_ok nmX5 hown hK hS.1 hS.2.1 hS.2.2 25 rfl rfl 6 (by decide) (ht _ hl) (fun _ h9 => h9) rfl (tyX5_ok 6 (by decide)) hn hf (Nat.le_of_ble_eq_true rfl) hdg (fun H locs hP hD hS => kk H locs ⟨hP, hD, hS⟩)

theorem get_25_7 (hx : p.tables.exec = Jvm.exec) (hb : c.code = cc) (hown : s.vm.findClass own = some m.cls) (ht : ∀ w ∈ gw, w.before args s = true) (hK : va_K (gD X) cls (tysW X) s) (hS : WS X A H0 σ H locs) (hl : Cond.fieldLink own index "GuardRosterModel" "code" "I" ∈ gw) (hdg : decode cc pc = .ok (.getfield index, 3)) (kk : W p l e R s m args below meth c H locs cells slots Q (F0 m (pc + 3) ls (.int (σ 25 7) :: rest))) : W p l e R s m args below meth c H locs cells slots Q (F0 m pc ls (.ref (ga X 25) :: rest)) :=
  va_get (D := gD X) (ci := 5) (v := .int (σ 25 7)) (C := RX5) (T := TX5) (N := 21) hx hb ht in_5 hown hK hS.1 25 rfl rfl 7 (by decide) (ht _ hl) (fun _ h9 => h9) rfl hdg kk

theorem put_25_7 (hx : p.tables.exec = Jvm.exec) (hb : c.code = cc) (hown : s.vm.findClass own = some m.cls) (ht : ∀ w ∈ gw, w.before args s = true) (hK : va_K (gD X) cls (tysW X) s) (hS : WS X A H0 σ H locs) {v : Int32} (hl : Cond.fieldLink own index "GuardRosterModel" "code" "I" ∈ gw) (hdg : decode cc pc = .ok (.putfield index, 3)) (kk : ∀ (H : Heap) (locs : List Loc), WS X A H0 (st σ 25 7 v) H locs → W p l e R s m args below meth c H locs cells slots Q (F0 m (pc + 3) ls rest)) : W p l e R s m args below meth c H locs cells slots Q (F0 m pc ls (.int v :: .ref (ga X 25) :: rest)) :=
  va_put (D := gD X) (ci := 5) (v := .int v) (ty := .int) (C := RX5) (T := TX5) (N := 21) hx hb ht in_5 tyX5 tyX5_ok nmX5 hown hK hS.1 hS.2.1 hS.2.2 25 rfl rfl 7 (by decide) (ht _ hl) (fun _ h9 => h9) rfl (tyX5_ok 7 (by decide)) rfl rfl (Nat.le_of_ble_eq_true rfl) hdg (fun H locs hP hD hS => kk H locs ⟨hP, hD, hS⟩)

theorem get_25_8 (hx : p.tables.exec = Jvm.exec) (hb : c.code = cc) (hown : s.vm.findClass own = some m.cls) (ht : ∀ w ∈ gw, w.before args s = true) (hK : va_K (gD X) cls (tysW X) s) (hS : WS X A H0 σ H locs) (hl : Cond.fieldLink own index "GuardRosterModel" "why" "I" ∈ gw) (hdg : decode cc pc = .ok (.getfield index, 3)) (kk : W p l e R s m args below meth c H locs cells slots Q (F0 m (pc + 3) ls (.int (σ 25 8) :: rest))) : W p l e R s m args below meth c H locs cells slots Q (F0 m pc ls (.ref (ga X 25) :: rest)) :=
  va_get (D := gD X) (ci := 5) (v := .int (σ 25 8)) (C := RX5) (T := TX5) (N := 21) hx hb ht in_5 hown hK hS.1 25 rfl rfl 8 (by decide) (ht _ hl) (fun _ h9 => h9) rfl hdg kk

theorem put_25_8 (hx : p.tables.exec = Jvm.exec) (hb : c.code = cc) (hown : s.vm.findClass own = some m.cls) (ht : ∀ w ∈ gw, w.before args s = true) (hK : va_K (gD X) cls (tysW X) s) (hS : WS X A H0 σ H locs) {v : Int32} (hl : Cond.fieldLink own index "GuardRosterModel" "why" "I" ∈ gw) (hdg : decode cc pc = .ok (.putfield index, 3)) (kk : ∀ (H : Heap) (locs : List Loc), WS X A H0 (st σ 25 8 v) H locs → W p l e R s m args below meth c H locs cells slots Q (F0 m (pc + 3) ls rest)) : W p l e R s m args below meth c H locs cells slots Q (F0 m pc ls (.int v :: .ref (ga X 25) :: rest)) :=
  va_put (D := gD X) (ci := 5) (v := .int v) (ty := .int) (C := RX5) (T := TX5) (N := 21) hx hb ht in_5 tyX5 tyX5_ok nmX5 hown hK hS.1 hS.2.1 hS.2.2 25 rfl rfl 8 (by decide) (ht _ hl) (fun _ h9 => h9) rfl (tyX5_ok 8 (by decide)) rfl rfl (Nat.le_of_ble_eq_true rfl) hdg (fun H locs hP hD hS => kk H locs ⟨hP, hD, hS⟩)

theorem get_25_9 (hx : p.tables.exec = Jvm.exec) (hb : c.code = cc) (hown : s.vm.findClass own = some m.cls) (ht : ∀ w ∈ gw, w.before args s = true) (hK : va_K (gD X) cls (tysW X) s) (hS : WS X A H0 σ H locs) (hl : Cond.fieldLink own index "GuardRosterModel" "detail" "I" ∈ gw) (hdg : decode cc pc = .ok (.getfield index, 3)) (kk : W p l e R s m args below meth c H locs cells slots Q (F0 m (pc + 3) ls (.int (σ 25 9) :: rest))) : W p l e R s m args below meth c H locs cells slots Q (F0 m pc ls (.ref (ga X 25) :: rest)) :=
  va_get (D := gD X) (ci := 5) (v := .int (σ 25 9)) (C := RX5) (T := TX5) (N := 21) hx hb ht in_5 hown hK hS.1 25 rfl rfl 9 (by decide) (ht _ hl) (fun _ h9 => h9) rfl hdg kk

theorem put_25_9 (hx : p.tables.exec = Jvm.exec) (hb : c.code = cc) (hown : s.vm.findClass own = some m.cls) (ht : ∀ w ∈ gw, w.before args s = true) (hK : va_K (gD X) cls (tysW X) s) (hS : WS X A H0 σ H locs) {v : Int32} (hl : Cond.fieldLink own index "GuardRosterModel" "detail" "I" ∈ gw) (hdg : decode cc pc = .ok (.putfield index, 3)) (kk : ∀ (H : Heap) (locs : List Loc), WS X A H0 (st σ 25 9 v) H locs → W p l e R s m args below meth c H locs cells slots Q (F0 m (pc + 3) ls rest)) : W p l e R s m args below meth c H locs cells slots Q (F0 m pc ls (.int v :: .ref (ga X 25) :: rest)) :=
  va_put (D := gD X) (ci := 5) (v := .int v) (ty := .int) (C := RX5) (T := TX5) (N := 21) hx hb ht in_5 tyX5 tyX5_ok nmX5 hown hK hS.1 hS.2.1 hS.2.2 25 rfl rfl 9 (by decide) (ht _ hl) (fun _ h9 => h9) rfl (tyX5_ok 9 (by decide)) rfl rfl (Nat.le_of_ble_eq_true rfl) hdg (fun H locs hP hD hS => kk H locs ⟨hP, hD, hS⟩)

theorem get_25_10 (hx : p.tables.exec = Jvm.exec) (hb : c.code = cc) (hown : s.vm.findClass own = some m.cls) (ht : ∀ w ∈ gw, w.before args s = true) (hK : va_K (gD X) cls (tysW X) s) (hS : WS X A H0 σ H locs) (hl : Cond.fieldLink own index "GuardRosterModel" "input" "[I" ∈ gw) (hdg : decode cc pc = .ok (.getfield index, 3)) (kk : W p l e R s m args below meth c H locs cells slots Q (F0 m (pc + 3) ls (.ref (ga X 30) :: rest))) : W p l e R s m args below meth c H locs cells slots Q (F0 m pc ls (.ref (ga X 25) :: rest)) :=
  va_get (D := gD X) (ci := 5) (v := .ref (ga X 30)) (C := RX5) (T := TX5) (N := 21) hx hb ht in_5 hown hK hS.1 25 rfl rfl 10 (by decide) (ht _ hl) (fun _ h9 => h9) rfl hdg kk

theorem get_25_11 (hx : p.tables.exec = Jvm.exec) (hb : c.code = cc) (hown : s.vm.findClass own = some m.cls) (ht : ∀ w ∈ gw, w.before args s = true) (hK : va_K (gD X) cls (tysW X) s) (hS : WS X A H0 σ H locs) (hl : Cond.fieldLink own index "GuardRosterModel" "length" "I" ∈ gw) (hdg : decode cc pc = .ok (.getfield index, 3)) (kk : W p l e R s m args below meth c H locs cells slots Q (F0 m (pc + 3) ls (.int (σ 25 11) :: rest))) : W p l e R s m args below meth c H locs cells slots Q (F0 m pc ls (.ref (ga X 25) :: rest)) :=
  va_get (D := gD X) (ci := 5) (v := .int (σ 25 11)) (C := RX5) (T := TX5) (N := 21) hx hb ht in_5 hown hK hS.1 25 rfl rfl 11 (by decide) (ht _ hl) (fun _ h9 => h9) rfl hdg kk

theorem put_25_11 (hx : p.tables.exec = Jvm.exec) (hb : c.code = cc) (hown : s.vm.findClass own = some m.cls) (ht : ∀ w ∈ gw, w.before args s = true) (hK : va_K (gD X) cls (tysW X) s) (hS : WS X A H0 σ H locs) {v : Int32} (hl : Cond.fieldLink own index "GuardRosterModel" "length" "I" ∈ gw) (hdg : decode cc pc = .ok (.putfield index, 3)) (kk : ∀ (H : Heap) (locs : List Loc), WS X A H0 (st σ 25 11 v) H locs → W p l e R s m args below meth c H locs cells slots Q (F0 m (pc + 3) ls rest)) : W p l e R s m args below meth c H locs cells slots Q (F0 m pc ls (.int v :: .ref (ga X 25) :: rest)) :=
  va_put (D := gD X) (ci := 5) (v := .int v) (ty := .int) (C := RX5) (T := TX5) (N := 21) hx hb ht in_5 tyX5 tyX5_ok nmX5 hown hK hS.1 hS.2.1 hS.2.2 25 rfl rfl 11 (by decide) (ht _ hl) (fun _ h9 => h9) rfl (tyX5_ok 11 (by decide)) rfl rfl (Nat.le_of_ble_eq_true rfl) hdg (fun H locs hP hD hS => kk H locs ⟨hP, hD, hS⟩)

theorem get_25_12 (hx : p.tables.exec = Jvm.exec) (hb : c.code = cc) (hown : s.vm.findClass own = some m.cls) (ht : ∀ w ∈ gw, w.before args s = true) (hK : va_K (gD X) cls (tysW X) s) (hS : WS X A H0 σ H locs) (hl : Cond.fieldLink own index "GuardRosterModel" "error" "I" ∈ gw) (hdg : decode cc pc = .ok (.getfield index, 3)) (kk : W p l e R s m args below meth c H locs cells slots Q (F0 m (pc + 3) ls (.int (σ 25 12) :: rest))) : W p l e R s m args below meth c H locs cells slots Q (F0 m pc ls (.ref (ga X 25) :: rest)) :=
  va_get (D := gD X) (ci := 5) (v := .int (σ 25 12)) (C := RX5) (T := TX5) (N := 21) hx hb ht in_5 hown hK hS.1 25 rfl rfl 12 (by decide) (ht _ hl) (fun _ h9 => h9) rfl hdg kk

theorem put_25_12 (hx : p.tables.exec = Jvm.exec) (hb : c.code = cc) (hown : s.vm.findClass own = some m.cls) (ht : ∀ w ∈ gw, w.before args s = true) (hK : va_K (gD X) cls (tysW X) s) (hS : WS X A H0 σ H locs) {v : Int32} (hl : Cond.fieldLink own index "GuardRosterModel" "error" "I" ∈ gw) (hdg : decode cc pc = .ok (.putfield index, 3)) (kk : ∀ (H : Heap) (locs : List Loc), WS X A H0 (st σ 25 12 v) H locs → W p l e R s m args below meth c H locs cells slots Q (F0 m (pc + 3) ls rest)) : W p l e R s m args below meth c H locs cells slots Q (F0 m pc ls (.int v :: .ref (ga X 25) :: rest)) :=
  va_put (D := gD X) (ci := 5) (v := .int v) (ty := .int) (C := RX5) (T := TX5) (N := 21) hx hb ht in_5 tyX5 tyX5_ok nmX5 hown hK hS.1 hS.2.1 hS.2.2 25 rfl rfl 12 (by decide) (ht _ hl) (fun _ h9 => h9) rfl (tyX5_ok 12 (by decide)) rfl rfl (Nat.le_of_ble_eq_true rfl) hdg (fun H locs hP hD hS => kk H locs ⟨hP, hD, hS⟩)

theorem get_25_13 (hx : p.tables.exec = Jvm.exec) (hb : c.code = cc) (hown : s.vm.findClass own = some m.cls) (ht : ∀ w ∈ gw, w.before args s = true) (hK : va_K (gD X) cls (tysW X) s) (hS : WS X A H0 σ H locs) (hl : Cond.fieldLink own index "GuardRosterModel" "failed" "I" ∈ gw) (hdg : decode cc pc = .ok (.getfield index, 3)) (kk : W p l e R s m args below meth c H locs cells slots Q (F0 m (pc + 3) ls (.int (σ 25 13) :: rest))) : W p l e R s m args below meth c H locs cells slots Q (F0 m pc ls (.ref (ga X 25) :: rest)) :=
  va_get (D := gD X) (ci := 5) (v := .int (σ 25 13)) (C := RX5) (T := TX5) (N := 21) hx hb ht in_5 hown hK hS.1 25 rfl rfl 13 (by decide) (ht _ hl) (fun _ h9 => h9) rfl hdg kk

theorem put_25_13 (hx : p.tables.exec = Jvm.exec) (hb : c.code = cc) (hown : s.vm.findClass own = some m.cls) (ht : ∀ w ∈ gw, w.before args s = true) (hK : va_K (gD X) cls (tysW X) s) (hS : WS X A H0 σ H locs) {v : Int32} (hl : Cond.fieldLink own index "GuardRosterModel" "failed" "I" ∈ gw) (hdg : decode cc pc = .ok (.putfield index, 3)) (kk : ∀ (H : Heap) (locs : List Loc), WS X A H0 (st σ 25 13 v) H locs → W p l e R s m args below meth c H locs cells slots Q (F0 m (pc + 3) ls rest)) : W p l e R s m args below meth c H locs cells slots Q (F0 m pc ls (.int v :: .ref (ga X 25) :: rest)) :=
  va_put (D := gD X) (ci := 5) (v := .int v) (ty := .int) (C := RX5) (T := TX5) (N := 21) hx hb ht in_5 tyX5 tyX5_ok nmX5 hown hK hS.1 hS.2.1 hS.2.2 25 rfl rfl 13 (by decide) (ht _ hl) (fun _ h9 => h9) rfl (tyX5_ok 13 (by decide)) rfl rfl (Nat.le_of_ble_eq_true rfl) hdg (fun H locs hP hD hS => kk H locs ⟨hP, hD, hS⟩)

theorem get_25_14 (hx : p.tables.exec = Jvm.exec) (hb : c.code = cc) (hown : s.vm.findClass own = some m.cls) (ht : ∀ w ∈ gw, w.before args s = true) (hK : va_K (gD X) cls (tysW X) s) (hS : WS X A H0 σ H locs) (hl : Cond.fieldLink own index "GuardRosterModel" "signs" "[C" ∈ gw) (hdg : decode cc pc = .ok (.getfield index, 3)) (kk : W p l e R s m args below meth c H locs cells slots Q (F0 m (pc + 3) ls (.ref (ga X 31) :: rest))) : W p l e R s m args below meth c H locs cells slots Q (F0 m pc ls (.ref (ga X 25) :: rest)) :=
  va_get (D := gD X) (ci := 5) (v := .ref (ga X 31)) (C := RX5) (T := TX5) (N := 21) hx hb ht in_5 hown hK hS.1 25 rfl rfl 14 (by decide) (ht _ hl) (fun _ h9 => h9) rfl hdg kk

theorem get_25_15 (hx : p.tables.exec = Jvm.exec) (hb : c.code = cc) (hown : s.vm.findClass own = some m.cls) (ht : ∀ w ∈ gw, w.before args s = true) (hK : va_K (gD X) cls (tysW X) s) (hS : WS X A H0 σ H locs) (hl : Cond.fieldLink own index "GuardRosterModel" "signMany" "I" ∈ gw) (hdg : decode cc pc = .ok (.getfield index, 3)) (kk : W p l e R s m args below meth c H locs cells slots Q (F0 m (pc + 3) ls (.int (σ 25 15) :: rest))) : W p l e R s m args below meth c H locs cells slots Q (F0 m pc ls (.ref (ga X 25) :: rest)) :=
  va_get (D := gD X) (ci := 5) (v := .int (σ 25 15)) (C := RX5) (T := TX5) (N := 21) hx hb ht in_5 hown hK hS.1 25 rfl rfl 15 (by decide) (ht _ hl) (fun _ h9 => h9) rfl hdg kk

theorem put_25_15 (hx : p.tables.exec = Jvm.exec) (hb : c.code = cc) (hown : s.vm.findClass own = some m.cls) (ht : ∀ w ∈ gw, w.before args s = true) (hK : va_K (gD X) cls (tysW X) s) (hS : WS X A H0 σ H locs) {v : Int32} (hl : Cond.fieldLink own index "GuardRosterModel" "signMany" "I" ∈ gw) (hdg : decode cc pc = .ok (.putfield index, 3)) (kk : ∀ (H : Heap) (locs : List Loc), WS X A H0 (st σ 25 15 v) H locs → W p l e R s m args below meth c H locs cells slots Q (F0 m (pc + 3) ls rest)) : W p l e R s m args below meth c H locs cells slots Q (F0 m pc ls (.int v :: .ref (ga X 25) :: rest)) :=
  va_put (D := gD X) (ci := 5) (v := .int v) (ty := .int) (C := RX5) (T := TX5) (N := 21) hx hb ht in_5 tyX5 tyX5_ok nmX5 hown hK hS.1 hS.2.1 hS.2.2 25 rfl rfl 15 (by decide) (ht _ hl) (fun _ h9 => h9) rfl (tyX5_ok 15 (by decide)) rfl rfl (Nat.le_of_ble_eq_true rfl) hdg (fun H locs hP hD hS => kk H locs ⟨hP, hD, hS⟩)

theorem get_25_16 (hx : p.tables.exec = Jvm.exec) (hb : c.code = cc) (hown : s.vm.findClass own = some m.cls) (ht : ∀ w ∈ gw, w.before args s = true) (hK : va_K (gD X) cls (tysW X) s) (hS : WS X A H0 σ H locs) (hl : Cond.fieldLink own index "GuardRosterModel" "told" "I" ∈ gw) (hdg : decode cc pc = .ok (.getfield index, 3)) (kk : W p l e R s m args below meth c H locs cells slots Q (F0 m (pc + 3) ls (.int (σ 25 16) :: rest))) : W p l e R s m args below meth c H locs cells slots Q (F0 m pc ls (.ref (ga X 25) :: rest)) :=
  va_get (D := gD X) (ci := 5) (v := .int (σ 25 16)) (C := RX5) (T := TX5) (N := 21) hx hb ht in_5 hown hK hS.1 25 rfl rfl 16 (by decide) (ht _ hl) (fun _ h9 => h9) rfl hdg kk

theorem put_25_16 (hx : p.tables.exec = Jvm.exec) (hb : c.code = cc) (hown : s.vm.findClass own = some m.cls) (ht : ∀ w ∈ gw, w.before args s = true) (hK : va_K (gD X) cls (tysW X) s) (hS : WS X A H0 σ H locs) {v : Int32} (hl : Cond.fieldLink own index "GuardRosterModel" "told" "I" ∈ gw) (hdg : decode cc pc = .ok (.putfield index, 3)) (kk : ∀ (H : Heap) (locs : List Loc), WS X A H0 (st σ 25 16 v) H locs → W p l e R s m args below meth c H locs cells slots Q (F0 m (pc + 3) ls rest)) : W p l e R s m args below meth c H locs cells slots Q (F0 m pc ls (.int v :: .ref (ga X 25) :: rest)) :=
  va_put (D := gD X) (ci := 5) (v := .int v) (ty := .int) (C := RX5) (T := TX5) (N := 21) hx hb ht in_5 tyX5 tyX5_ok nmX5 hown hK hS.1 hS.2.1 hS.2.2 25 rfl rfl 16 (by decide) (ht _ hl) (fun _ h9 => h9) rfl (tyX5_ok 16 (by decide)) rfl rfl (Nat.le_of_ble_eq_true rfl) hdg (fun H locs hP hD hS => kk H locs ⟨hP, hD, hS⟩)

theorem get_25_17 (hx : p.tables.exec = Jvm.exec) (hb : c.code = cc) (hown : s.vm.findClass own = some m.cls) (ht : ∀ w ∈ gw, w.before args s = true) (hK : va_K (gD X) cls (tysW X) s) (hS : WS X A H0 σ H locs) (hl : Cond.fieldLink own index "GuardRosterModel" "best" "[I" ∈ gw) (hdg : decode cc pc = .ok (.getfield index, 3)) (kk : W p l e R s m args below meth c H locs cells slots Q (F0 m (pc + 3) ls (.ref (ga X 32) :: rest))) : W p l e R s m args below meth c H locs cells slots Q (F0 m pc ls (.ref (ga X 25) :: rest)) :=
  va_get (D := gD X) (ci := 5) (v := .ref (ga X 32)) (C := RX5) (T := TX5) (N := 21) hx hb ht in_5 hown hK hS.1 25 rfl rfl 17 (by decide) (ht _ hl) (fun _ h9 => h9) rfl hdg kk

theorem get_25_18 (hx : p.tables.exec = Jvm.exec) (hb : c.code = cc) (hown : s.vm.findClass own = some m.cls) (ht : ∀ w ∈ gw, w.before args s = true) (hK : va_K (gD X) cls (tysW X) s) (hS : WS X A H0 σ H locs) (hl : Cond.fieldLink own index "GuardRosterModel" "at" "I" ∈ gw) (hdg : decode cc pc = .ok (.getfield index, 3)) (kk : W p l e R s m args below meth c H locs cells slots Q (F0 m (pc + 3) ls (.int (σ 25 18) :: rest))) : W p l e R s m args below meth c H locs cells slots Q (F0 m pc ls (.ref (ga X 25) :: rest)) :=
  va_get (D := gD X) (ci := 5) (v := .int (σ 25 18)) (C := RX5) (T := TX5) (N := 21) hx hb ht in_5 hown hK hS.1 25 rfl rfl 18 (by decide) (ht _ hl) (fun _ h9 => h9) rfl hdg kk

theorem put_25_18 (hx : p.tables.exec = Jvm.exec) (hb : c.code = cc) (hown : s.vm.findClass own = some m.cls) (ht : ∀ w ∈ gw, w.before args s = true) (hK : va_K (gD X) cls (tysW X) s) (hS : WS X A H0 σ H locs) {v : Int32} (hl : Cond.fieldLink own index "GuardRosterModel" "at" "I" ∈ gw) (hdg : decode cc pc = .ok (.putfield index, 3)) (kk : ∀ (H : Heap) (locs : List Loc), WS X A H0 (st σ 25 18 v) H locs → W p l e R s m args below meth c H locs cells slots Q (F0 m (pc + 3) ls rest)) : W p l e R s m args below meth c H locs cells slots Q (F0 m pc ls (.int v :: .ref (ga X 25) :: rest)) :=
  va_put (D := gD X) (ci := 5) (v := .int v) (ty := .int) (C := RX5) (T := TX5) (N := 21) hx hb ht in_5 tyX5 tyX5_ok nmX5 hown hK hS.1 hS.2.1 hS.2.2 25 rfl rfl 18 (by decide) (ht _ hl) (fun _ h9 => h9) rfl (tyX5_ok 18 (by decide)) rfl rfl (Nat.le_of_ble_eq_true rfl) hdg (fun H locs hP hD hS => kk H locs ⟨hP, hD, hS⟩)

theorem get_25_19 (hx : p.tables.exec = Jvm.exec) (hb : c.code = cc) (hown : s.vm.findClass own = some m.cls) (ht : ∀ w ∈ gw, w.before args s = true) (hK : va_K (gD X) cls (tysW X) s) (hS : WS X A H0 σ H locs) (hl : Cond.fieldLink own index "GuardRosterModel" "orders" "[I" ∈ gw) (hdg : decode cc pc = .ok (.getfield index, 3)) (kk : W p l e R s m args below meth c H locs cells slots Q (F0 m (pc + 3) ls (.ref (ga X 33) :: rest))) : W p l e R s m args below meth c H locs cells slots Q (F0 m pc ls (.ref (ga X 25) :: rest)) :=
  va_get (D := gD X) (ci := 5) (v := .ref (ga X 33)) (C := RX5) (T := TX5) (N := 21) hx hb ht in_5 hown hK hS.1 25 rfl rfl 19 (by decide) (ht _ hl) (fun _ h9 => h9) rfl hdg kk

theorem get_25_20 (hx : p.tables.exec = Jvm.exec) (hb : c.code = cc) (hown : s.vm.findClass own = some m.cls) (ht : ∀ w ∈ gw, w.before args s = true) (hK : va_K (gD X) cls (tysW X) s) (hS : WS X A H0 σ H locs) (hl : Cond.fieldLink own index "GuardRosterModel" "orderMany" "I" ∈ gw) (hdg : decode cc pc = .ok (.getfield index, 3)) (kk : W p l e R s m args below meth c H locs cells slots Q (F0 m (pc + 3) ls (.int (σ 25 20) :: rest))) : W p l e R s m args below meth c H locs cells slots Q (F0 m pc ls (.ref (ga X 25) :: rest)) :=
  va_get (D := gD X) (ci := 5) (v := .int (σ 25 20)) (C := RX5) (T := TX5) (N := 21) hx hb ht in_5 hown hK hS.1 25 rfl rfl 20 (by decide) (ht _ hl) (fun _ h9 => h9) rfl hdg kk

theorem put_25_20 (hx : p.tables.exec = Jvm.exec) (hb : c.code = cc) (hown : s.vm.findClass own = some m.cls) (ht : ∀ w ∈ gw, w.before args s = true) (hK : va_K (gD X) cls (tysW X) s) (hS : WS X A H0 σ H locs) {v : Int32} (hl : Cond.fieldLink own index "GuardRosterModel" "orderMany" "I" ∈ gw) (hdg : decode cc pc = .ok (.putfield index, 3)) (kk : ∀ (H : Heap) (locs : List Loc), WS X A H0 (st σ 25 20 v) H locs → W p l e R s m args below meth c H locs cells slots Q (F0 m (pc + 3) ls rest)) : W p l e R s m args below meth c H locs cells slots Q (F0 m pc ls (.int v :: .ref (ga X 25) :: rest)) :=
  va_put (D := gD X) (ci := 5) (v := .int v) (ty := .int) (C := RX5) (T := TX5) (N := 21) hx hb ht in_5 tyX5 tyX5_ok nmX5 hown hK hS.1 hS.2.1 hS.2.2 25 rfl rfl 20 (by decide) (ht _ hl) (fun _ h9 => h9) rfl (tyX5_ok 20 (by decide)) rfl rfl (Nat.le_of_ble_eq_true rfl) hdg (fun H locs hP hD hS => kk H locs ⟨hP, hD, hS⟩)

theorem ald_2 (hx : p.tables.exec = Jvm.exec) (hb : c.code = cc) (hK : va_K (gD X) cls (tysW X) s) (hS : WS X A H0 σ H locs) {i : Int32} (hin : vp_in i 179) (hdg : decode cc pc = .ok (.iaload, 1)) (kk : W p l e R s m args below meth c H locs cells slots Q (F0 m (pc + 1) ls (.int (σ 2 i.toNatClampNeg) :: rest))) : W p l e R s m args below meth c H locs cells slots Q (F0 m pc ls (.int i :: .ref (ga X 2) :: rest)) :=
  va_iald hx hb hK hS.1 2 0 rfl rfl hin hdg kk

theorem ast_2 (hx : p.tables.exec = Jvm.exec) (hb : c.code = cc) (hK : va_K (gD X) cls (tysW X) s) (hS : WS X A H0 σ H locs) {i x : Int32} (hin : vp_in i 179) (hdg : decode cc pc = .ok (.iastore, 1)) (kk : ∀ (H : Heap) (locs : List Loc), WS X A H0 (st σ 2 i.toNatClampNeg (x)) H locs → W p l e R s m args below meth c H locs cells slots Q (F0 m (pc + 1) ls rest)) : W p l e R s m args below meth c H locs cells slots Q (F0 m pc ls (.int x :: .int i :: .ref (ga X 2) :: rest)) :=
  va_iast hx hb hK hS.1 hS.2.1 hS.2.2 2 0 rfl rfl hin hdg (fun H locs hP hD hS => kk H locs ⟨hP, hD, hS⟩)

theorem aln_2 (hx : p.tables.exec = Jvm.exec) (hb : c.code = cc) (hK : va_K (gD X) cls (tysW X) s) (hS : WS X A H0 σ H locs) (hdg : decode cc pc = .ok (.arraylength, 1)) (kk : W p l e R s m args below meth c H locs cells slots Q (F0 m (pc + 1) ls (.int 179 :: rest))) : W p l e R s m args below meth c H locs cells slots Q (F0 m pc ls (.ref (ga X 2) :: rest)) :=
  va_alen hx hb hK hS.1 2 0 rfl rfl rfl hdg kk

theorem ald_3 (hx : p.tables.exec = Jvm.exec) (hb : c.code = cc) (hK : va_K (gD X) cls (tysW X) s) (hS : WS X A H0 σ H locs) {i : Int32} (hin : vp_in i 10) (hdg : decode cc pc = .ok (.iaload, 1)) (kk : W p l e R s m args below meth c H locs cells slots Q (F0 m (pc + 1) ls (.int (σ 3 i.toNatClampNeg) :: rest))) : W p l e R s m args below meth c H locs cells slots Q (F0 m pc ls (.int i :: .ref (ga X 3) :: rest)) :=
  va_iald hx hb hK hS.1 3 0 rfl rfl hin hdg kk

theorem ast_3 (hx : p.tables.exec = Jvm.exec) (hb : c.code = cc) (hK : va_K (gD X) cls (tysW X) s) (hS : WS X A H0 σ H locs) {i x : Int32} (hin : vp_in i 10) (hdg : decode cc pc = .ok (.iastore, 1)) (kk : ∀ (H : Heap) (locs : List Loc), WS X A H0 (st σ 3 i.toNatClampNeg (x)) H locs → W p l e R s m args below meth c H locs cells slots Q (F0 m (pc + 1) ls rest)) : W p l e R s m args below meth c H locs cells slots Q (F0 m pc ls (.int x :: .int i :: .ref (ga X 3) :: rest)) :=
  va_iast hx hb hK hS.1 hS.2.1 hS.2.2 3 0 rfl rfl hin hdg (fun H locs hP hD hS => kk H locs ⟨hP, hD, hS⟩)

theorem aln_3 (hx : p.tables.exec = Jvm.exec) (hb : c.code = cc) (hK : va_K (gD X) cls (tysW X) s) (hS : WS X A H0 σ H locs) (hdg : decode cc pc = .ok (.arraylength, 1)) (kk : W p l e R s m args below meth c H locs cells slots Q (F0 m (pc + 1) ls (.int 10 :: rest))) : W p l e R s m args below meth c H locs cells slots Q (F0 m pc ls (.ref (ga X 3) :: rest)) :=
  va_alen hx hb hK hS.1 3 0 rfl rfl rfl hdg kk

theorem ald_6 (hx : p.tables.exec = Jvm.exec) (hb : c.code = cc) (hK : va_K (gD X) cls (tysW X) s) (hS : WS X A H0 σ H locs) {i : Int32} (hin : vp_in i 179) (hdg : decode cc pc = .ok (.iaload, 1)) (kk : W p l e R s m args below meth c H locs cells slots Q (F0 m (pc + 1) ls (.int (σ 6 i.toNatClampNeg) :: rest))) : W p l e R s m args below meth c H locs cells slots Q (F0 m pc ls (.int i :: .ref (ga X 6) :: rest)) :=
  va_iald hx hb hK hS.1 6 0 rfl rfl hin hdg kk

theorem ast_6 (hx : p.tables.exec = Jvm.exec) (hb : c.code = cc) (hK : va_K (gD X) cls (tysW X) s) (hS : WS X A H0 σ H locs) {i x : Int32} (hin : vp_in i 179) (hdg : decode cc pc = .ok (.iastore, 1)) (kk : ∀ (H : Heap) (locs : List Loc), WS X A H0 (st σ 6 i.toNatClampNeg (x)) H locs → W p l e R s m args below meth c H locs cells slots Q (F0 m (pc + 1) ls rest)) : W p l e R s m args below meth c H locs cells slots Q (F0 m pc ls (.int x :: .int i :: .ref (ga X 6) :: rest)) :=
  va_iast hx hb hK hS.1 hS.2.1 hS.2.2 6 0 rfl rfl hin hdg (fun H locs hP hD hS => kk H locs ⟨hP, hD, hS⟩)

theorem aln_6 (hx : p.tables.exec = Jvm.exec) (hb : c.code = cc) (hK : va_K (gD X) cls (tysW X) s) (hS : WS X A H0 σ H locs) (hdg : decode cc pc = .ok (.arraylength, 1)) (kk : W p l e R s m args below meth c H locs cells slots Q (F0 m (pc + 1) ls (.int 179 :: rest))) : W p l e R s m args below meth c H locs cells slots Q (F0 m pc ls (.ref (ga X 6) :: rest)) :=
  va_alen hx hb hK hS.1 6 0 rfl rfl rfl hdg kk

theorem ald_7 (hx : p.tables.exec = Jvm.exec) (hb : c.code = cc) (hK : va_K (gD X) cls (tysW X) s) (hS : WS X A H0 σ H locs) {i : Int32} (hin : vp_in i 179) (hdg : decode cc pc = .ok (.iaload, 1)) (kk : W p l e R s m args below meth c H locs cells slots Q (F0 m (pc + 1) ls (.int (σ 7 i.toNatClampNeg) :: rest))) : W p l e R s m args below meth c H locs cells slots Q (F0 m pc ls (.int i :: .ref (ga X 7) :: rest)) :=
  va_iald hx hb hK hS.1 7 0 rfl rfl hin hdg kk

theorem ast_7 (hx : p.tables.exec = Jvm.exec) (hb : c.code = cc) (hK : va_K (gD X) cls (tysW X) s) (hS : WS X A H0 σ H locs) {i x : Int32} (hin : vp_in i 179) (hdg : decode cc pc = .ok (.iastore, 1)) (kk : ∀ (H : Heap) (locs : List Loc), WS X A H0 (st σ 7 i.toNatClampNeg (x)) H locs → W p l e R s m args below meth c H locs cells slots Q (F0 m (pc + 1) ls rest)) : W p l e R s m args below meth c H locs cells slots Q (F0 m pc ls (.int x :: .int i :: .ref (ga X 7) :: rest)) :=
  va_iast hx hb hK hS.1 hS.2.1 hS.2.2 7 0 rfl rfl hin hdg (fun H locs hP hD hS => kk H locs ⟨hP, hD, hS⟩)

theorem aln_7 (hx : p.tables.exec = Jvm.exec) (hb : c.code = cc) (hK : va_K (gD X) cls (tysW X) s) (hS : WS X A H0 σ H locs) (hdg : decode cc pc = .ok (.arraylength, 1)) (kk : W p l e R s m args below meth c H locs cells slots Q (F0 m (pc + 1) ls (.int 179 :: rest))) : W p l e R s m args below meth c H locs cells slots Q (F0 m pc ls (.ref (ga X 7) :: rest)) :=
  va_alen hx hb hK hS.1 7 0 rfl rfl rfl hdg kk

theorem ald_8 (hx : p.tables.exec = Jvm.exec) (hb : c.code = cc) (hK : va_K (gD X) cls (tysW X) s) (hS : WS X A H0 σ H locs) {i : Int32} (hin : vp_in i 179) (hdg : decode cc pc = .ok (.iaload, 1)) (kk : W p l e R s m args below meth c H locs cells slots Q (F0 m (pc + 1) ls (.int (σ 8 i.toNatClampNeg) :: rest))) : W p l e R s m args below meth c H locs cells slots Q (F0 m pc ls (.int i :: .ref (ga X 8) :: rest)) :=
  va_iald hx hb hK hS.1 8 0 rfl rfl hin hdg kk

theorem ast_8 (hx : p.tables.exec = Jvm.exec) (hb : c.code = cc) (hK : va_K (gD X) cls (tysW X) s) (hS : WS X A H0 σ H locs) {i x : Int32} (hin : vp_in i 179) (hdg : decode cc pc = .ok (.iastore, 1)) (kk : ∀ (H : Heap) (locs : List Loc), WS X A H0 (st σ 8 i.toNatClampNeg (x)) H locs → W p l e R s m args below meth c H locs cells slots Q (F0 m (pc + 1) ls rest)) : W p l e R s m args below meth c H locs cells slots Q (F0 m pc ls (.int x :: .int i :: .ref (ga X 8) :: rest)) :=
  va_iast hx hb hK hS.1 hS.2.1 hS.2.2 8 0 rfl rfl hin hdg (fun H locs hP hD hS => kk H locs ⟨hP, hD, hS⟩)

theorem aln_8 (hx : p.tables.exec = Jvm.exec) (hb : c.code = cc) (hK : va_K (gD X) cls (tysW X) s) (hS : WS X A H0 σ H locs) (hdg : decode cc pc = .ok (.arraylength, 1)) (kk : W p l e R s m args below meth c H locs cells slots Q (F0 m (pc + 1) ls (.int 179 :: rest))) : W p l e R s m args below meth c H locs cells slots Q (F0 m pc ls (.ref (ga X 8) :: rest)) :=
  va_alen hx hb hK hS.1 8 0 rfl rfl rfl hdg kk

theorem ald_9 (hx : p.tables.exec = Jvm.exec) (hb : c.code = cc) (hK : va_K (gD X) cls (tysW X) s) (hS : WS X A H0 σ H locs) {i : Int32} (hin : vp_in i 179) (hdg : decode cc pc = .ok (.iaload, 1)) (kk : W p l e R s m args below meth c H locs cells slots Q (F0 m (pc + 1) ls (.int (σ 9 i.toNatClampNeg) :: rest))) : W p l e R s m args below meth c H locs cells slots Q (F0 m pc ls (.int i :: .ref (ga X 9) :: rest)) :=
  va_iald hx hb hK hS.1 9 0 rfl rfl hin hdg kk

theorem ast_9 (hx : p.tables.exec = Jvm.exec) (hb : c.code = cc) (hK : va_K (gD X) cls (tysW X) s) (hS : WS X A H0 σ H locs) {i x : Int32} (hin : vp_in i 179) (hdg : decode cc pc = .ok (.iastore, 1)) (kk : ∀ (H : Heap) (locs : List Loc), WS X A H0 (st σ 9 i.toNatClampNeg (x)) H locs → W p l e R s m args below meth c H locs cells slots Q (F0 m (pc + 1) ls rest)) : W p l e R s m args below meth c H locs cells slots Q (F0 m pc ls (.int x :: .int i :: .ref (ga X 9) :: rest)) :=
  va_iast hx hb hK hS.1 hS.2.1 hS.2.2 9 0 rfl rfl hin hdg (fun H locs hP hD hS => kk H locs ⟨hP, hD, hS⟩)

theorem aln_9 (hx : p.tables.exec = Jvm.exec) (hb : c.code = cc) (hK : va_K (gD X) cls (tysW X) s) (hS : WS X A H0 σ H locs) (hdg : decode cc pc = .ok (.arraylength, 1)) (kk : W p l e R s m args below meth c H locs cells slots Q (F0 m (pc + 1) ls (.int 179 :: rest))) : W p l e R s m args below meth c H locs cells slots Q (F0 m pc ls (.ref (ga X 9) :: rest)) :=
  va_alen hx hb hK hS.1 9 0 rfl rfl rfl hdg kk

theorem ald_10 (hx : p.tables.exec = Jvm.exec) (hb : c.code = cc) (hK : va_K (gD X) cls (tysW X) s) (hS : WS X A H0 σ H locs) {i : Int32} (hin : vp_in i 179) (hdg : decode cc pc = .ok (.iaload, 1)) (kk : W p l e R s m args below meth c H locs cells slots Q (F0 m (pc + 1) ls (.int (σ 10 i.toNatClampNeg) :: rest))) : W p l e R s m args below meth c H locs cells slots Q (F0 m pc ls (.int i :: .ref (ga X 10) :: rest)) :=
  va_iald hx hb hK hS.1 10 0 rfl rfl hin hdg kk

theorem ast_10 (hx : p.tables.exec = Jvm.exec) (hb : c.code = cc) (hK : va_K (gD X) cls (tysW X) s) (hS : WS X A H0 σ H locs) {i x : Int32} (hin : vp_in i 179) (hdg : decode cc pc = .ok (.iastore, 1)) (kk : ∀ (H : Heap) (locs : List Loc), WS X A H0 (st σ 10 i.toNatClampNeg (x)) H locs → W p l e R s m args below meth c H locs cells slots Q (F0 m (pc + 1) ls rest)) : W p l e R s m args below meth c H locs cells slots Q (F0 m pc ls (.int x :: .int i :: .ref (ga X 10) :: rest)) :=
  va_iast hx hb hK hS.1 hS.2.1 hS.2.2 10 0 rfl rfl hin hdg (fun H locs hP hD hS => kk H locs ⟨hP, hD, hS⟩)

theorem aln_10 (hx : p.tables.exec = Jvm.exec) (hb : c.code = cc) (hK : va_K (gD X) cls (tysW X) s) (hS : WS X A H0 σ H locs) (hdg : decode cc pc = .ok (.arraylength, 1)) (kk : W p l e R s m args below meth c H locs cells slots Q (F0 m (pc + 1) ls (.int 179 :: rest))) : W p l e R s m args below meth c H locs cells slots Q (F0 m pc ls (.ref (ga X 10) :: rest)) :=
  va_alen hx hb hK hS.1 10 0 rfl rfl rfl hdg kk

theorem ald_11 (hx : p.tables.exec = Jvm.exec) (hb : c.code = cc) (hK : va_K (gD X) cls (tysW X) s) (hS : WS X A H0 σ H locs) {i : Int32} (hin : vp_in i 179) (hdg : decode cc pc = .ok (.iaload, 1)) (kk : W p l e R s m args below meth c H locs cells slots Q (F0 m (pc + 1) ls (.int (σ 11 i.toNatClampNeg) :: rest))) : W p l e R s m args below meth c H locs cells slots Q (F0 m pc ls (.int i :: .ref (ga X 11) :: rest)) :=
  va_iald hx hb hK hS.1 11 0 rfl rfl hin hdg kk

theorem ast_11 (hx : p.tables.exec = Jvm.exec) (hb : c.code = cc) (hK : va_K (gD X) cls (tysW X) s) (hS : WS X A H0 σ H locs) {i x : Int32} (hin : vp_in i 179) (hdg : decode cc pc = .ok (.iastore, 1)) (kk : ∀ (H : Heap) (locs : List Loc), WS X A H0 (st σ 11 i.toNatClampNeg (x)) H locs → W p l e R s m args below meth c H locs cells slots Q (F0 m (pc + 1) ls rest)) : W p l e R s m args below meth c H locs cells slots Q (F0 m pc ls (.int x :: .int i :: .ref (ga X 11) :: rest)) :=
  va_iast hx hb hK hS.1 hS.2.1 hS.2.2 11 0 rfl rfl hin hdg (fun H locs hP hD hS => kk H locs ⟨hP, hD, hS⟩)

theorem aln_11 (hx : p.tables.exec = Jvm.exec) (hb : c.code = cc) (hK : va_K (gD X) cls (tysW X) s) (hS : WS X A H0 σ H locs) (hdg : decode cc pc = .ok (.arraylength, 1)) (kk : W p l e R s m args below meth c H locs cells slots Q (F0 m (pc + 1) ls (.int 179 :: rest))) : W p l e R s m args below meth c H locs cells slots Q (F0 m pc ls (.ref (ga X 11) :: rest)) :=
  va_alen hx hb hK hS.1 11 0 rfl rfl rfl hdg kk

theorem ald_12 (hx : p.tables.exec = Jvm.exec) (hb : c.code = cc) (hK : va_K (gD X) cls (tysW X) s) (hS : WS X A H0 σ H locs) {i : Int32} (hin : vp_in i 179) (hdg : decode cc pc = .ok (.iaload, 1)) (kk : W p l e R s m args below meth c H locs cells slots Q (F0 m (pc + 1) ls (.int (σ 12 i.toNatClampNeg) :: rest))) : W p l e R s m args below meth c H locs cells slots Q (F0 m pc ls (.int i :: .ref (ga X 12) :: rest)) :=
  va_iald hx hb hK hS.1 12 0 rfl rfl hin hdg kk

theorem ast_12 (hx : p.tables.exec = Jvm.exec) (hb : c.code = cc) (hK : va_K (gD X) cls (tysW X) s) (hS : WS X A H0 σ H locs) {i x : Int32} (hin : vp_in i 179) (hdg : decode cc pc = .ok (.iastore, 1)) (kk : ∀ (H : Heap) (locs : List Loc), WS X A H0 (st σ 12 i.toNatClampNeg (x)) H locs → W p l e R s m args below meth c H locs cells slots Q (F0 m (pc + 1) ls rest)) : W p l e R s m args below meth c H locs cells slots Q (F0 m pc ls (.int x :: .int i :: .ref (ga X 12) :: rest)) :=
  va_iast hx hb hK hS.1 hS.2.1 hS.2.2 12 0 rfl rfl hin hdg (fun H locs hP hD hS => kk H locs ⟨hP, hD, hS⟩)

theorem aln_12 (hx : p.tables.exec = Jvm.exec) (hb : c.code = cc) (hK : va_K (gD X) cls (tysW X) s) (hS : WS X A H0 σ H locs) (hdg : decode cc pc = .ok (.arraylength, 1)) (kk : W p l e R s m args below meth c H locs cells slots Q (F0 m (pc + 1) ls (.int 179 :: rest))) : W p l e R s m args below meth c H locs cells slots Q (F0 m pc ls (.ref (ga X 12) :: rest)) :=
  va_alen hx hb hK hS.1 12 0 rfl rfl rfl hdg kk

theorem ald_13 (hx : p.tables.exec = Jvm.exec) (hb : c.code = cc) (hK : va_K (gD X) cls (tysW X) s) (hS : WS X A H0 σ H locs) {i : Int32} (hin : vp_in i 179) (hdg : decode cc pc = .ok (.iaload, 1)) (kk : W p l e R s m args below meth c H locs cells slots Q (F0 m (pc + 1) ls (.int (σ 13 i.toNatClampNeg) :: rest))) : W p l e R s m args below meth c H locs cells slots Q (F0 m pc ls (.int i :: .ref (ga X 13) :: rest)) :=
  va_iald hx hb hK hS.1 13 0 rfl rfl hin hdg kk

theorem ast_13 (hx : p.tables.exec = Jvm.exec) (hb : c.code = cc) (hK : va_K (gD X) cls (tysW X) s) (hS : WS X A H0 σ H locs) {i x : Int32} (hin : vp_in i 179) (hdg : decode cc pc = .ok (.iastore, 1)) (kk : ∀ (H : Heap) (locs : List Loc), WS X A H0 (st σ 13 i.toNatClampNeg (x)) H locs → W p l e R s m args below meth c H locs cells slots Q (F0 m (pc + 1) ls rest)) : W p l e R s m args below meth c H locs cells slots Q (F0 m pc ls (.int x :: .int i :: .ref (ga X 13) :: rest)) :=
  va_iast hx hb hK hS.1 hS.2.1 hS.2.2 13 0 rfl rfl hin hdg (fun H locs hP hD hS => kk H locs ⟨hP, hD, hS⟩)

theorem aln_13 (hx : p.tables.exec = Jvm.exec) (hb : c.code = cc) (hK : va_K (gD X) cls (tysW X) s) (hS : WS X A H0 σ H locs) (hdg : decode cc pc = .ok (.arraylength, 1)) (kk : W p l e R s m args below meth c H locs cells slots Q (F0 m (pc + 1) ls (.int 179 :: rest))) : W p l e R s m args below meth c H locs cells slots Q (F0 m pc ls (.ref (ga X 13) :: rest)) :=
  va_alen hx hb hK hS.1 13 0 rfl rfl rfl hdg kk

theorem ald_14 (hx : p.tables.exec = Jvm.exec) (hb : c.code = cc) (hK : va_K (gD X) cls (tysW X) s) (hS : WS X A H0 σ H locs) {i : Int32} (hin : vp_in i 179) (hdg : decode cc pc = .ok (.iaload, 1)) (kk : W p l e R s m args below meth c H locs cells slots Q (F0 m (pc + 1) ls (.int (σ 14 i.toNatClampNeg) :: rest))) : W p l e R s m args below meth c H locs cells slots Q (F0 m pc ls (.int i :: .ref (ga X 14) :: rest)) :=
  va_iald hx hb hK hS.1 14 0 rfl rfl hin hdg kk

theorem ast_14 (hx : p.tables.exec = Jvm.exec) (hb : c.code = cc) (hK : va_K (gD X) cls (tysW X) s) (hS : WS X A H0 σ H locs) {i x : Int32} (hin : vp_in i 179) (hdg : decode cc pc = .ok (.iastore, 1)) (kk : ∀ (H : Heap) (locs : List Loc), WS X A H0 (st σ 14 i.toNatClampNeg (x)) H locs → W p l e R s m args below meth c H locs cells slots Q (F0 m (pc + 1) ls rest)) : W p l e R s m args below meth c H locs cells slots Q (F0 m pc ls (.int x :: .int i :: .ref (ga X 14) :: rest)) :=
  va_iast hx hb hK hS.1 hS.2.1 hS.2.2 14 0 rfl rfl hin hdg (fun H locs hP hD hS => kk H locs ⟨hP, hD, hS⟩)

theorem aln_14 (hx : p.tables.exec = Jvm.exec) (hb : c.code = cc) (hK : va_K (gD X) cls (tysW X) s) (hS : WS X A H0 σ H locs) (hdg : decode cc pc = .ok (.arraylength, 1)) (kk : W p l e R s m args below meth c H locs cells slots Q (F0 m (pc + 1) ls (.int 179 :: rest))) : W p l e R s m args below meth c H locs cells slots Q (F0 m pc ls (.ref (ga X 14) :: rest)) :=
  va_alen hx hb hK hS.1 14 0 rfl rfl rfl hdg kk

theorem ald_16 (hx : p.tables.exec = Jvm.exec) (hb : c.code = cc) (hK : va_K (gD X) cls (tysW X) s) (hS : WS X A H0 σ H locs) {i : Int32} (hin : vp_in i 5) (hdg : decode cc pc = .ok (.iaload, 1)) (kk : W p l e R s m args below meth c H locs cells slots Q (F0 m (pc + 1) ls (.int (σ 16 i.toNatClampNeg) :: rest))) : W p l e R s m args below meth c H locs cells slots Q (F0 m pc ls (.int i :: .ref (ga X 16) :: rest)) :=
  va_iald hx hb hK hS.1 16 0 rfl rfl hin hdg kk

theorem ast_16 (hx : p.tables.exec = Jvm.exec) (hb : c.code = cc) (hK : va_K (gD X) cls (tysW X) s) (hS : WS X A H0 σ H locs) {i x : Int32} (hin : vp_in i 5) (hdg : decode cc pc = .ok (.iastore, 1)) (kk : ∀ (H : Heap) (locs : List Loc), WS X A H0 (st σ 16 i.toNatClampNeg (x)) H locs → W p l e R s m args below meth c H locs cells slots Q (F0 m (pc + 1) ls rest)) : W p l e R s m args below meth c H locs cells slots Q (F0 m pc ls (.int x :: .int i :: .ref (ga X 16) :: rest)) :=
  va_iast hx hb hK hS.1 hS.2.1 hS.2.2 16 0 rfl rfl hin hdg (fun H locs hP hD hS => kk H locs ⟨hP, hD, hS⟩)

theorem aln_16 (hx : p.tables.exec = Jvm.exec) (hb : c.code = cc) (hK : va_K (gD X) cls (tysW X) s) (hS : WS X A H0 σ H locs) (hdg : decode cc pc = .ok (.arraylength, 1)) (kk : W p l e R s m args below meth c H locs cells slots Q (F0 m (pc + 1) ls (.int 5 :: rest))) : W p l e R s m args below meth c H locs cells slots Q (F0 m pc ls (.ref (ga X 16) :: rest)) :=
  va_alen hx hb hK hS.1 16 0 rfl rfl rfl hdg kk

theorem ald_17 (hx : p.tables.exec = Jvm.exec) (hb : c.code = cc) (hK : va_K (gD X) cls (tysW X) s) (hS : WS X A H0 σ H locs) {i : Int32} (hin : vp_in i 10) (hdg : decode cc pc = .ok (.iaload, 1)) (kk : W p l e R s m args below meth c H locs cells slots Q (F0 m (pc + 1) ls (.int (σ 17 i.toNatClampNeg) :: rest))) : W p l e R s m args below meth c H locs cells slots Q (F0 m pc ls (.int i :: .ref (ga X 17) :: rest)) :=
  va_iald hx hb hK hS.1 17 0 rfl rfl hin hdg kk

theorem ast_17 (hx : p.tables.exec = Jvm.exec) (hb : c.code = cc) (hK : va_K (gD X) cls (tysW X) s) (hS : WS X A H0 σ H locs) {i x : Int32} (hin : vp_in i 10) (hdg : decode cc pc = .ok (.iastore, 1)) (kk : ∀ (H : Heap) (locs : List Loc), WS X A H0 (st σ 17 i.toNatClampNeg (x)) H locs → W p l e R s m args below meth c H locs cells slots Q (F0 m (pc + 1) ls rest)) : W p l e R s m args below meth c H locs cells slots Q (F0 m pc ls (.int x :: .int i :: .ref (ga X 17) :: rest)) :=
  va_iast hx hb hK hS.1 hS.2.1 hS.2.2 17 0 rfl rfl hin hdg (fun H locs hP hD hS => kk H locs ⟨hP, hD, hS⟩)

theorem aln_17 (hx : p.tables.exec = Jvm.exec) (hb : c.code = cc) (hK : va_K (gD X) cls (tysW X) s) (hS : WS X A H0 σ H locs) (hdg : decode cc pc = .ok (.arraylength, 1)) (kk : W p l e R s m args below meth c H locs cells slots Q (F0 m (pc + 1) ls (.int 10 :: rest))) : W p l e R s m args below meth c H locs cells slots Q (F0 m pc ls (.ref (ga X 17) :: rest)) :=
  va_alen hx hb hK hS.1 17 0 rfl rfl rfl hdg kk

theorem ald_18 (hx : p.tables.exec = Jvm.exec) (hb : c.code = cc) (hK : va_K (gD X) cls (tysW X) s) (hS : WS X A H0 σ H locs) {i : Int32} (hin : vp_in i 32) (hdg : decode cc pc = .ok (.iaload, 1)) (kk : W p l e R s m args below meth c H locs cells slots Q (F0 m (pc + 1) ls (.int (σ 18 i.toNatClampNeg) :: rest))) : W p l e R s m args below meth c H locs cells slots Q (F0 m pc ls (.int i :: .ref (ga X 18) :: rest)) :=
  va_iald hx hb hK hS.1 18 0 rfl rfl hin hdg kk

theorem ast_18 (hx : p.tables.exec = Jvm.exec) (hb : c.code = cc) (hK : va_K (gD X) cls (tysW X) s) (hS : WS X A H0 σ H locs) {i x : Int32} (hin : vp_in i 32) (hdg : decode cc pc = .ok (.iastore, 1)) (kk : ∀ (H : Heap) (locs : List Loc), WS X A H0 (st σ 18 i.toNatClampNeg (x)) H locs → W p l e R s m args below meth c H locs cells slots Q (F0 m (pc + 1) ls rest)) : W p l e R s m args below meth c H locs cells slots Q (F0 m pc ls (.int x :: .int i :: .ref (ga X 18) :: rest)) :=
  va_iast hx hb hK hS.1 hS.2.1 hS.2.2 18 0 rfl rfl hin hdg (fun H locs hP hD hS => kk H locs ⟨hP, hD, hS⟩)

theorem aln_18 (hx : p.tables.exec = Jvm.exec) (hb : c.code = cc) (hK : va_K (gD X) cls (tysW X) s) (hS : WS X A H0 σ H locs) (hdg : decode cc pc = .ok (.arraylength, 1)) (kk : W p l e R s m args below meth c H locs cells slots Q (F0 m (pc + 1) ls (.int 32 :: rest))) : W p l e R s m args below meth c H locs cells slots Q (F0 m pc ls (.ref (ga X 18) :: rest)) :=
  va_alen hx hb hK hS.1 18 0 rfl rfl rfl hdg kk

theorem ald_20 (hx : p.tables.exec = Jvm.exec) (hb : c.code = cc) (hK : va_K (gD X) cls (tysW X) s) (hS : WS X A H0 σ H locs) {i : Int32} (hin : vp_in i 60) (hdg : decode cc pc = .ok (.caload, 1)) (kk : W p l e R s m args below meth c H locs cells slots Q (F0 m (pc + 1) ls (.int (σ 20 i.toNatClampNeg) :: rest))) : W p l e R s m args below meth c H locs cells slots Q (F0 m pc ls (.int i :: .ref (ga X 20) :: rest)) :=
  va_cald hx hb hK hS.1 20 1 rfl rfl hin hdg kk

theorem ast_20 (hx : p.tables.exec = Jvm.exec) (hb : c.code = cc) (hK : va_K (gD X) cls (tysW X) s) (hS : WS X A H0 σ H locs) {i x : Int32} (hin : vp_in i 60) (hdg : decode cc pc = .ok (.castore, 1)) (kk : ∀ (H : Heap) (locs : List Loc), WS X A H0 (st σ 20 i.toNatClampNeg (vp_nar .char x)) H locs → W p l e R s m args below meth c H locs cells slots Q (F0 m (pc + 1) ls rest)) : W p l e R s m args below meth c H locs cells slots Q (F0 m pc ls (.int x :: .int i :: .ref (ga X 20) :: rest)) :=
  va_cast hx hb hK hS.1 hS.2.1 hS.2.2 20 1 rfl rfl hin hdg (fun H locs hP hD hS => kk H locs ⟨hP, hD, hS⟩)

theorem aln_20 (hx : p.tables.exec = Jvm.exec) (hb : c.code = cc) (hK : va_K (gD X) cls (tysW X) s) (hS : WS X A H0 σ H locs) (hdg : decode cc pc = .ok (.arraylength, 1)) (kk : W p l e R s m args below meth c H locs cells slots Q (F0 m (pc + 1) ls (.int 60 :: rest))) : W p l e R s m args below meth c H locs cells slots Q (F0 m pc ls (.ref (ga X 20) :: rest)) :=
  va_alen hx hb hK hS.1 20 1 rfl rfl rfl hdg kk

theorem ald_21 (hx : p.tables.exec = Jvm.exec) (hb : c.code = cc) (hK : va_K (gD X) cls (tysW X) s) (hS : WS X A H0 σ H locs) {i : Int32} (hin : vp_in i 9) (hdg : decode cc pc = .ok (.iaload, 1)) (kk : W p l e R s m args below meth c H locs cells slots Q (F0 m (pc + 1) ls (.int (σ 21 i.toNatClampNeg) :: rest))) : W p l e R s m args below meth c H locs cells slots Q (F0 m pc ls (.int i :: .ref (ga X 21) :: rest)) :=
  va_iald hx hb hK hS.1 21 0 rfl rfl hin hdg kk

theorem ast_21 (hx : p.tables.exec = Jvm.exec) (hb : c.code = cc) (hK : va_K (gD X) cls (tysW X) s) (hS : WS X A H0 σ H locs) {i x : Int32} (hin : vp_in i 9) (hdg : decode cc pc = .ok (.iastore, 1)) (kk : ∀ (H : Heap) (locs : List Loc), WS X A H0 (st σ 21 i.toNatClampNeg (x)) H locs → W p l e R s m args below meth c H locs cells slots Q (F0 m (pc + 1) ls rest)) : W p l e R s m args below meth c H locs cells slots Q (F0 m pc ls (.int x :: .int i :: .ref (ga X 21) :: rest)) :=
  va_iast hx hb hK hS.1 hS.2.1 hS.2.2 21 0 rfl rfl hin hdg (fun H locs hP hD hS => kk H locs ⟨hP, hD, hS⟩)

theorem aln_21 (hx : p.tables.exec = Jvm.exec) (hb : c.code = cc) (hK : va_K (gD X) cls (tysW X) s) (hS : WS X A H0 σ H locs) (hdg : decode cc pc = .ok (.arraylength, 1)) (kk : W p l e R s m args below meth c H locs cells slots Q (F0 m (pc + 1) ls (.int 9 :: rest))) : W p l e R s m args below meth c H locs cells slots Q (F0 m pc ls (.ref (ga X 21) :: rest)) :=
  va_alen hx hb hK hS.1 21 0 rfl rfl rfl hdg kk

theorem ald_22 (hx : p.tables.exec = Jvm.exec) (hb : c.code = cc) (hK : va_K (gD X) cls (tysW X) s) (hS : WS X A H0 σ H locs) {i : Int32} (hin : vp_in i 27) (hdg : decode cc pc = .ok (.iaload, 1)) (kk : W p l e R s m args below meth c H locs cells slots Q (F0 m (pc + 1) ls (.int (σ 22 i.toNatClampNeg) :: rest))) : W p l e R s m args below meth c H locs cells slots Q (F0 m pc ls (.int i :: .ref (ga X 22) :: rest)) :=
  va_iald hx hb hK hS.1 22 0 rfl rfl hin hdg kk

theorem ast_22 (hx : p.tables.exec = Jvm.exec) (hb : c.code = cc) (hK : va_K (gD X) cls (tysW X) s) (hS : WS X A H0 σ H locs) {i x : Int32} (hin : vp_in i 27) (hdg : decode cc pc = .ok (.iastore, 1)) (kk : ∀ (H : Heap) (locs : List Loc), WS X A H0 (st σ 22 i.toNatClampNeg (x)) H locs → W p l e R s m args below meth c H locs cells slots Q (F0 m (pc + 1) ls rest)) : W p l e R s m args below meth c H locs cells slots Q (F0 m pc ls (.int x :: .int i :: .ref (ga X 22) :: rest)) :=
  va_iast hx hb hK hS.1 hS.2.1 hS.2.2 22 0 rfl rfl hin hdg (fun H locs hP hD hS => kk H locs ⟨hP, hD, hS⟩)

theorem aln_22 (hx : p.tables.exec = Jvm.exec) (hb : c.code = cc) (hK : va_K (gD X) cls (tysW X) s) (hS : WS X A H0 σ H locs) (hdg : decode cc pc = .ok (.arraylength, 1)) (kk : W p l e R s m args below meth c H locs cells slots Q (F0 m (pc + 1) ls (.int 27 :: rest))) : W p l e R s m args below meth c H locs cells slots Q (F0 m pc ls (.ref (ga X 22) :: rest)) :=
  va_alen hx hb hK hS.1 22 0 rfl rfl rfl hdg kk

theorem ald_23 (hx : p.tables.exec = Jvm.exec) (hb : c.code = cc) (hK : va_K (gD X) cls (tysW X) s) (hS : WS X A H0 σ H locs) {i : Int32} (hin : vp_in i 179) (hdg : decode cc pc = .ok (.iaload, 1)) (kk : W p l e R s m args below meth c H locs cells slots Q (F0 m (pc + 1) ls (.int (σ 23 i.toNatClampNeg) :: rest))) : W p l e R s m args below meth c H locs cells slots Q (F0 m pc ls (.int i :: .ref (ga X 23) :: rest)) :=
  va_iald hx hb hK hS.1 23 0 rfl rfl hin hdg kk

theorem ast_23 (hx : p.tables.exec = Jvm.exec) (hb : c.code = cc) (hK : va_K (gD X) cls (tysW X) s) (hS : WS X A H0 σ H locs) {i x : Int32} (hin : vp_in i 179) (hdg : decode cc pc = .ok (.iastore, 1)) (kk : ∀ (H : Heap) (locs : List Loc), WS X A H0 (st σ 23 i.toNatClampNeg (x)) H locs → W p l e R s m args below meth c H locs cells slots Q (F0 m (pc + 1) ls rest)) : W p l e R s m args below meth c H locs cells slots Q (F0 m pc ls (.int x :: .int i :: .ref (ga X 23) :: rest)) :=
  va_iast hx hb hK hS.1 hS.2.1 hS.2.2 23 0 rfl rfl hin hdg (fun H locs hP hD hS => kk H locs ⟨hP, hD, hS⟩)

theorem aln_23 (hx : p.tables.exec = Jvm.exec) (hb : c.code = cc) (hK : va_K (gD X) cls (tysW X) s) (hS : WS X A H0 σ H locs) (hdg : decode cc pc = .ok (.arraylength, 1)) (kk : W p l e R s m args below meth c H locs cells slots Q (F0 m (pc + 1) ls (.int 179 :: rest))) : W p l e R s m args below meth c H locs cells slots Q (F0 m pc ls (.ref (ga X 23) :: rest)) :=
  va_alen hx hb hK hS.1 23 0 rfl rfl rfl hdg kk

theorem ald_24 (hx : p.tables.exec = Jvm.exec) (hb : c.code = cc) (hK : va_K (gD X) cls (tysW X) s) (hS : WS X A H0 σ H locs) {i : Int32} (hin : vp_in i 28) (hdg : decode cc pc = .ok (.caload, 1)) (kk : W p l e R s m args below meth c H locs cells slots Q (F0 m (pc + 1) ls (.int (σ 24 i.toNatClampNeg) :: rest))) : W p l e R s m args below meth c H locs cells slots Q (F0 m pc ls (.int i :: .ref (ga X 24) :: rest)) :=
  va_cald hx hb hK hS.1 24 1 rfl rfl hin hdg kk

theorem ast_24 (hx : p.tables.exec = Jvm.exec) (hb : c.code = cc) (hK : va_K (gD X) cls (tysW X) s) (hS : WS X A H0 σ H locs) {i x : Int32} (hin : vp_in i 28) (hdg : decode cc pc = .ok (.castore, 1)) (kk : ∀ (H : Heap) (locs : List Loc), WS X A H0 (st σ 24 i.toNatClampNeg (vp_nar .char x)) H locs → W p l e R s m args below meth c H locs cells slots Q (F0 m (pc + 1) ls rest)) : W p l e R s m args below meth c H locs cells slots Q (F0 m pc ls (.int x :: .int i :: .ref (ga X 24) :: rest)) :=
  va_cast hx hb hK hS.1 hS.2.1 hS.2.2 24 1 rfl rfl hin hdg (fun H locs hP hD hS => kk H locs ⟨hP, hD, hS⟩)

theorem aln_24 (hx : p.tables.exec = Jvm.exec) (hb : c.code = cc) (hK : va_K (gD X) cls (tysW X) s) (hS : WS X A H0 σ H locs) (hdg : decode cc pc = .ok (.arraylength, 1)) (kk : W p l e R s m args below meth c H locs cells slots Q (F0 m (pc + 1) ls (.int 28 :: rest))) : W p l e R s m args below meth c H locs cells slots Q (F0 m pc ls (.ref (ga X 24) :: rest)) :=
  va_alen hx hb hK hS.1 24 1 rfl rfl rfl hdg kk

theorem ald_26 (hx : p.tables.exec = Jvm.exec) (hb : c.code = cc) (hK : va_K (gD X) cls (tysW X) s) (hS : WS X A H0 σ H locs) {i : Int32} (hin : vp_in i 179) (hdg : decode cc pc = .ok (.iaload, 1)) (kk : W p l e R s m args below meth c H locs cells slots Q (F0 m (pc + 1) ls (.int (σ 26 i.toNatClampNeg) :: rest))) : W p l e R s m args below meth c H locs cells slots Q (F0 m pc ls (.int i :: .ref (ga X 26) :: rest)) :=
  va_iald hx hb hK hS.1 26 0 rfl rfl hin hdg kk

theorem ast_26 (hx : p.tables.exec = Jvm.exec) (hb : c.code = cc) (hK : va_K (gD X) cls (tysW X) s) (hS : WS X A H0 σ H locs) {i x : Int32} (hin : vp_in i 179) (hdg : decode cc pc = .ok (.iastore, 1)) (kk : ∀ (H : Heap) (locs : List Loc), WS X A H0 (st σ 26 i.toNatClampNeg (x)) H locs → W p l e R s m args below meth c H locs cells slots Q (F0 m (pc + 1) ls rest)) : W p l e R s m args below meth c H locs cells slots Q (F0 m pc ls (.int x :: .int i :: .ref (ga X 26) :: rest)) :=
  va_iast hx hb hK hS.1 hS.2.1 hS.2.2 26 0 rfl rfl hin hdg (fun H locs hP hD hS => kk H locs ⟨hP, hD, hS⟩)

theorem aln_26 (hx : p.tables.exec = Jvm.exec) (hb : c.code = cc) (hK : va_K (gD X) cls (tysW X) s) (hS : WS X A H0 σ H locs) (hdg : decode cc pc = .ok (.arraylength, 1)) (kk : W p l e R s m args below meth c H locs cells slots Q (F0 m (pc + 1) ls (.int 179 :: rest))) : W p l e R s m args below meth c H locs cells slots Q (F0 m pc ls (.ref (ga X 26) :: rest)) :=
  va_alen hx hb hK hS.1 26 0 rfl rfl rfl hdg kk

theorem ald_27 (hx : p.tables.exec = Jvm.exec) (hb : c.code = cc) (hK : va_K (gD X) cls (tysW X) s) (hS : WS X A H0 σ H locs) {i : Int32} (hin : vp_in i 1432) (hdg : decode cc pc = .ok (.iaload, 1)) (kk : W p l e R s m args below meth c H locs cells slots Q (F0 m (pc + 1) ls (.int (σ 27 i.toNatClampNeg) :: rest))) : W p l e R s m args below meth c H locs cells slots Q (F0 m pc ls (.int i :: .ref (ga X 27) :: rest)) :=
  va_iald hx hb hK hS.1 27 0 rfl rfl hin hdg kk

theorem ast_27 (hx : p.tables.exec = Jvm.exec) (hb : c.code = cc) (hK : va_K (gD X) cls (tysW X) s) (hS : WS X A H0 σ H locs) {i x : Int32} (hin : vp_in i 1432) (hdg : decode cc pc = .ok (.iastore, 1)) (kk : ∀ (H : Heap) (locs : List Loc), WS X A H0 (st σ 27 i.toNatClampNeg (x)) H locs → W p l e R s m args below meth c H locs cells slots Q (F0 m (pc + 1) ls rest)) : W p l e R s m args below meth c H locs cells slots Q (F0 m pc ls (.int x :: .int i :: .ref (ga X 27) :: rest)) :=
  va_iast hx hb hK hS.1 hS.2.1 hS.2.2 27 0 rfl rfl hin hdg (fun H locs hP hD hS => kk H locs ⟨hP, hD, hS⟩)

theorem aln_27 (hx : p.tables.exec = Jvm.exec) (hb : c.code = cc) (hK : va_K (gD X) cls (tysW X) s) (hS : WS X A H0 σ H locs) (hdg : decode cc pc = .ok (.arraylength, 1)) (kk : W p l e R s m args below meth c H locs cells slots Q (F0 m (pc + 1) ls (.int 1432 :: rest))) : W p l e R s m args below meth c H locs cells slots Q (F0 m pc ls (.ref (ga X 27) :: rest)) :=
  va_alen hx hb hK hS.1 27 0 rfl rfl rfl hdg kk

theorem ald_28 (hx : p.tables.exec = Jvm.exec) (hb : c.code = cc) (hK : va_K (gD X) cls (tysW X) s) (hS : WS X A H0 σ H locs) {i : Int32} (hin : vp_in i 179) (hdg : decode cc pc = .ok (.iaload, 1)) (kk : W p l e R s m args below meth c H locs cells slots Q (F0 m (pc + 1) ls (.int (σ 28 i.toNatClampNeg) :: rest))) : W p l e R s m args below meth c H locs cells slots Q (F0 m pc ls (.int i :: .ref (ga X 28) :: rest)) :=
  va_iald hx hb hK hS.1 28 0 rfl rfl hin hdg kk

theorem ast_28 (hx : p.tables.exec = Jvm.exec) (hb : c.code = cc) (hK : va_K (gD X) cls (tysW X) s) (hS : WS X A H0 σ H locs) {i x : Int32} (hin : vp_in i 179) (hdg : decode cc pc = .ok (.iastore, 1)) (kk : ∀ (H : Heap) (locs : List Loc), WS X A H0 (st σ 28 i.toNatClampNeg (x)) H locs → W p l e R s m args below meth c H locs cells slots Q (F0 m (pc + 1) ls rest)) : W p l e R s m args below meth c H locs cells slots Q (F0 m pc ls (.int x :: .int i :: .ref (ga X 28) :: rest)) :=
  va_iast hx hb hK hS.1 hS.2.1 hS.2.2 28 0 rfl rfl hin hdg (fun H locs hP hD hS => kk H locs ⟨hP, hD, hS⟩)

theorem aln_28 (hx : p.tables.exec = Jvm.exec) (hb : c.code = cc) (hK : va_K (gD X) cls (tysW X) s) (hS : WS X A H0 σ H locs) (hdg : decode cc pc = .ok (.arraylength, 1)) (kk : W p l e R s m args below meth c H locs cells slots Q (F0 m (pc + 1) ls (.int 179 :: rest))) : W p l e R s m args below meth c H locs cells slots Q (F0 m pc ls (.ref (ga X 28) :: rest)) :=
  va_alen hx hb hK hS.1 28 0 rfl rfl rfl hdg kk

theorem ald_29 (hx : p.tables.exec = Jvm.exec) (hb : c.code = cc) (hK : va_K (gD X) cls (tysW X) s) (hS : WS X A H0 σ H locs) {i : Int32} (hin : vp_in i 179) (hdg : decode cc pc = .ok (.iaload, 1)) (kk : W p l e R s m args below meth c H locs cells slots Q (F0 m (pc + 1) ls (.int (σ 29 i.toNatClampNeg) :: rest))) : W p l e R s m args below meth c H locs cells slots Q (F0 m pc ls (.int i :: .ref (ga X 29) :: rest)) :=
  va_iald hx hb hK hS.1 29 0 rfl rfl hin hdg kk

theorem ast_29 (hx : p.tables.exec = Jvm.exec) (hb : c.code = cc) (hK : va_K (gD X) cls (tysW X) s) (hS : WS X A H0 σ H locs) {i x : Int32} (hin : vp_in i 179) (hdg : decode cc pc = .ok (.iastore, 1)) (kk : ∀ (H : Heap) (locs : List Loc), WS X A H0 (st σ 29 i.toNatClampNeg (x)) H locs → W p l e R s m args below meth c H locs cells slots Q (F0 m (pc + 1) ls rest)) : W p l e R s m args below meth c H locs cells slots Q (F0 m pc ls (.int x :: .int i :: .ref (ga X 29) :: rest)) :=
  va_iast hx hb hK hS.1 hS.2.1 hS.2.2 29 0 rfl rfl hin hdg (fun H locs hP hD hS => kk H locs ⟨hP, hD, hS⟩)

theorem aln_29 (hx : p.tables.exec = Jvm.exec) (hb : c.code = cc) (hK : va_K (gD X) cls (tysW X) s) (hS : WS X A H0 σ H locs) (hdg : decode cc pc = .ok (.arraylength, 1)) (kk : W p l e R s m args below meth c H locs cells slots Q (F0 m (pc + 1) ls (.int 179 :: rest))) : W p l e R s m args below meth c H locs cells slots Q (F0 m pc ls (.ref (ga X 29) :: rest)) :=
  va_alen hx hb hK hS.1 29 0 rfl rfl rfl hdg kk

theorem ald_30 (hx : p.tables.exec = Jvm.exec) (hb : c.code = cc) (hK : va_K (gD X) cls (tysW X) s) (hS : WS X A H0 σ H locs) {i : Int32} (hin : vp_in i 60) (hdg : decode cc pc = .ok (.iaload, 1)) (kk : W p l e R s m args below meth c H locs cells slots Q (F0 m (pc + 1) ls (.int (σ 30 i.toNatClampNeg) :: rest))) : W p l e R s m args below meth c H locs cells slots Q (F0 m pc ls (.int i :: .ref (ga X 30) :: rest)) :=
  va_iald hx hb hK hS.1 30 0 rfl rfl hin hdg kk

theorem ast_30 (hx : p.tables.exec = Jvm.exec) (hb : c.code = cc) (hK : va_K (gD X) cls (tysW X) s) (hS : WS X A H0 σ H locs) {i x : Int32} (hin : vp_in i 60) (hdg : decode cc pc = .ok (.iastore, 1)) (kk : ∀ (H : Heap) (locs : List Loc), WS X A H0 (st σ 30 i.toNatClampNeg (x)) H locs → W p l e R s m args below meth c H locs cells slots Q (F0 m (pc + 1) ls rest)) : W p l e R s m args below meth c H locs cells slots Q (F0 m pc ls (.int x :: .int i :: .ref (ga X 30) :: rest)) :=
  va_iast hx hb hK hS.1 hS.2.1 hS.2.2 30 0 rfl rfl hin hdg (fun H locs hP hD hS => kk H locs ⟨hP, hD, hS⟩)

theorem aln_30 (hx : p.tables.exec = Jvm.exec) (hb : c.code = cc) (hK : va_K (gD X) cls (tysW X) s) (hS : WS X A H0 σ H locs) (hdg : decode cc pc = .ok (.arraylength, 1)) (kk : W p l e R s m args below meth c H locs cells slots Q (F0 m (pc + 1) ls (.int 60 :: rest))) : W p l e R s m args below meth c H locs cells slots Q (F0 m pc ls (.ref (ga X 30) :: rest)) :=
  va_alen hx hb hK hS.1 30 0 rfl rfl rfl hdg kk

theorem ald_31 (hx : p.tables.exec = Jvm.exec) (hb : c.code = cc) (hK : va_K (gD X) cls (tysW X) s) (hS : WS X A H0 σ H locs) {i : Int32} (hin : vp_in i 60) (hdg : decode cc pc = .ok (.caload, 1)) (kk : W p l e R s m args below meth c H locs cells slots Q (F0 m (pc + 1) ls (.int (σ 31 i.toNatClampNeg) :: rest))) : W p l e R s m args below meth c H locs cells slots Q (F0 m pc ls (.int i :: .ref (ga X 31) :: rest)) :=
  va_cald hx hb hK hS.1 31 1 rfl rfl hin hdg kk

theorem ast_31 (hx : p.tables.exec = Jvm.exec) (hb : c.code = cc) (hK : va_K (gD X) cls (tysW X) s) (hS : WS X A H0 σ H locs) {i x : Int32} (hin : vp_in i 60) (hdg : decode cc pc = .ok (.castore, 1)) (kk : ∀ (H : Heap) (locs : List Loc), WS X A H0 (st σ 31 i.toNatClampNeg (vp_nar .char x)) H locs → W p l e R s m args below meth c H locs cells slots Q (F0 m (pc + 1) ls rest)) : W p l e R s m args below meth c H locs cells slots Q (F0 m pc ls (.int x :: .int i :: .ref (ga X 31) :: rest)) :=
  va_cast hx hb hK hS.1 hS.2.1 hS.2.2 31 1 rfl rfl hin hdg (fun H locs hP hD hS => kk H locs ⟨hP, hD, hS⟩)

theorem aln_31 (hx : p.tables.exec = Jvm.exec) (hb : c.code = cc) (hK : va_K (gD X) cls (tysW X) s) (hS : WS X A H0 σ H locs) (hdg : decode cc pc = .ok (.arraylength, 1)) (kk : W p l e R s m args below meth c H locs cells slots Q (F0 m (pc + 1) ls (.int 60 :: rest))) : W p l e R s m args below meth c H locs cells slots Q (F0 m pc ls (.ref (ga X 31) :: rest)) :=
  va_alen hx hb hK hS.1 31 1 rfl rfl rfl hdg kk

theorem ald_32 (hx : p.tables.exec = Jvm.exec) (hb : c.code = cc) (hK : va_K (gD X) cls (tysW X) s) (hS : WS X A H0 σ H locs) {i : Int32} (hin : vp_in i 32) (hdg : decode cc pc = .ok (.iaload, 1)) (kk : W p l e R s m args below meth c H locs cells slots Q (F0 m (pc + 1) ls (.int (σ 32 i.toNatClampNeg) :: rest))) : W p l e R s m args below meth c H locs cells slots Q (F0 m pc ls (.int i :: .ref (ga X 32) :: rest)) :=
  va_iald hx hb hK hS.1 32 0 rfl rfl hin hdg kk

theorem ast_32 (hx : p.tables.exec = Jvm.exec) (hb : c.code = cc) (hK : va_K (gD X) cls (tysW X) s) (hS : WS X A H0 σ H locs) {i x : Int32} (hin : vp_in i 32) (hdg : decode cc pc = .ok (.iastore, 1)) (kk : ∀ (H : Heap) (locs : List Loc), WS X A H0 (st σ 32 i.toNatClampNeg (x)) H locs → W p l e R s m args below meth c H locs cells slots Q (F0 m (pc + 1) ls rest)) : W p l e R s m args below meth c H locs cells slots Q (F0 m pc ls (.int x :: .int i :: .ref (ga X 32) :: rest)) :=
  va_iast hx hb hK hS.1 hS.2.1 hS.2.2 32 0 rfl rfl hin hdg (fun H locs hP hD hS => kk H locs ⟨hP, hD, hS⟩)

theorem aln_32 (hx : p.tables.exec = Jvm.exec) (hb : c.code = cc) (hK : va_K (gD X) cls (tysW X) s) (hS : WS X A H0 σ H locs) (hdg : decode cc pc = .ok (.arraylength, 1)) (kk : W p l e R s m args below meth c H locs cells slots Q (F0 m (pc + 1) ls (.int 32 :: rest))) : W p l e R s m args below meth c H locs cells slots Q (F0 m pc ls (.ref (ga X 32) :: rest)) :=
  va_alen hx hb hK hS.1 32 0 rfl rfl rfl hdg kk

theorem ald_33 (hx : p.tables.exec = Jvm.exec) (hb : c.code = cc) (hK : va_K (gD X) cls (tysW X) s) (hS : WS X A H0 σ H locs) {i : Int32} (hin : vp_in i 124) (hdg : decode cc pc = .ok (.iaload, 1)) (kk : W p l e R s m args below meth c H locs cells slots Q (F0 m (pc + 1) ls (.int (σ 33 i.toNatClampNeg) :: rest))) : W p l e R s m args below meth c H locs cells slots Q (F0 m pc ls (.int i :: .ref (ga X 33) :: rest)) :=
  va_iald hx hb hK hS.1 33 0 rfl rfl hin hdg kk

theorem ast_33 (hx : p.tables.exec = Jvm.exec) (hb : c.code = cc) (hK : va_K (gD X) cls (tysW X) s) (hS : WS X A H0 σ H locs) {i x : Int32} (hin : vp_in i 124) (hdg : decode cc pc = .ok (.iastore, 1)) (kk : ∀ (H : Heap) (locs : List Loc), WS X A H0 (st σ 33 i.toNatClampNeg (x)) H locs → W p l e R s m args below meth c H locs cells slots Q (F0 m (pc + 1) ls rest)) : W p l e R s m args below meth c H locs cells slots Q (F0 m pc ls (.int x :: .int i :: .ref (ga X 33) :: rest)) :=
  va_iast hx hb hK hS.1 hS.2.1 hS.2.2 33 0 rfl rfl hin hdg (fun H locs hP hD hS => kk H locs ⟨hP, hD, hS⟩)

theorem aln_33 (hx : p.tables.exec = Jvm.exec) (hb : c.code = cc) (hK : va_K (gD X) cls (tysW X) s) (hS : WS X A H0 σ H locs) (hdg : decode cc pc = .ok (.arraylength, 1)) (kk : W p l e R s m args below meth c H locs cells slots Q (F0 m (pc + 1) ls (.int 124 :: rest))) : W p l e R s m args below meth c H locs cells slots Q (F0 m pc ls (.ref (ga X 33) :: rest)) :=
  va_alen hx hb hK hS.1 33 0 rfl rfl rfl hdg kk

end G1


/-- an int's content of one row to another's -/
def cp (σ : Mem) (a b : Nat) : Mem := va_up σ b (va_cpy (σ a) (σ b) 0 0 179)
abbrev WI (X : GX) (K : Int32 → Mem → Prop) (p : Program) (l : Launch) (e : Env) (rm : Room) (s : State) (m : MethodId) (args : Array Value) (below : List Frame) (meth : Method) (c : Code) (A : Nat → Prop) (H : Heap) (locs : List Loc) (g : JFrame) : Prop := W p l e rm s m args below meth c H locs 0 0 (MQ below (va_Qi K (BW X A) A) args s 0 0 A) g
abbrev WR (X : GX) (K : Nat → Mem → Prop) (p : Program) (l : Launch) (e : Env) (rm : Room) (s : State) (m : MethodId) (args : Array Value) (below : List Frame) (meth : Method) (c : Code) (A : Nat → Prop) (H : Heap) (locs : List Loc) (g : JFrame) : Prop := W p l e rm s m args below meth c H locs 0 0 (MQ below (QR X K A) args s 0 0 A) g
abbrev WV (X : GX) (K : Mem → Prop) (p : Program) (l : Launch) (e : Env) (rm : Room) (s : State) (m : MethodId) (args : Array Value) (below : List Frame) (meth : Method) (c : Code) (A : Nat → Prop) (H : Heap) (locs : List Loc) (g : JFrame) : Prop := W p l e rm s m args below meth c H locs 0 0 (MQ below (va_Qv K (BW X A) A) args s 0 0 A) g
theorem ne_toInt {x k : Int32} {a : Int} (h : ¬ x = k) (hk : k.toInt = a) : x.toInt ≠ a := fun q => h (Int32.toInt_inj.mp (q.trans hk.symm))
section G2
variable {p : Program} {l : Launch} {e : Env} {R : Room} {s : State} {m : MethodId} {args : Array Value} {below : List Frame} {meth : Method} {c : Code} {H : Heap} {locs : List Loc} {cells slots : Nat} {Q : State → Prop}
variable {cc : ByteArray} {pc : Nat} {ls : Array Slot} {rest : List Value} {A : Nat → Prop} {H0 : Heap} {X : GX} {σ : Mem} {own : String} {index : Nat}
theorem k_RI {y : MethodName} {c' : ByteArray} {n' np idx nL : Nat} {ret' : Option FieldType} {rm : Room} {b : Addr} {As rest st0 : List Value} {K : Int32 → Mem → Prop} (hM : MI l X y c' n' ret' rm (.ref b :: As) σ K) (hF : MFV y c' n' ret' np) (hlink : Cond.methodLink own idx y ∈ gw)
    (hx : p.tables.exec = Jvm.exec) (hb : c.code = cc) (hml : c.maxLocals = nL) (hown : s.vm.findClass own = some m.cls) (ht : ∀ w ∈ gw, w.before args s = true) (hK : va_K (gD X) cls (tysW X) s) (hZ : ZF X A s s.heap) (hS : WS X A s.heap σ H locs) (hA : ∀ q, s.heap.size ≤ q → A q) (hrec : ∃ cell : Cell, H[b]? = some cell ∧ cell.vm.isStatics = false ∧ s.vm.findClass y.cls = some cell.cls)
    (hrc : rm.cells = 0 ∧ rm.slots = 0) (hR : rm.frames + 1 ≤ R.frames ∧ 8 + (n' + 11) + rm.locals ≤ R.locals) (hn : As.length = np) (hls : ls.size = nL) (hst : st0 = As.reverse ++ .ref b :: rest) (hcat : (rest.map fun v => v.category).sum ≤ 8) (hz : cells ≤ R.cells ∧ slots ≤ R.slots) (hdg : decode cc pc = .ok (.invokevirtual idx, 3))
    (kk : ∀ (r : Int32) (σ : Mem) (H : Heap) (locs : List Loc), WS X A s.heap σ H locs → K r σ → W p l e R s m args below meth c H locs cells slots Q (F0 m (pc + 3) ls (.int r :: rest))) : W p l e R s m args below meth c H locs cells slots Q (F0 m pc ls st0) :=
  k_aftI (va_runV (cc := cc) (nL := nL) (Ts := gw) (own := own) (C := y.cls) (rest := rest) ⟨hx, hb, hml, hown, ht⟩ (hM H.size) ⟨k_callB hF.1 ht hlink hrc hR, ht _ hF.2.1, ht _ hF.2.2⟩ ⟨ws_blind _ _, hrec, fun U hU hW => ⟨rfl, by rw [hU], by rw [hU]; exact hS.1, va_K.moved hW.alike hK, hS.2.1.weaken (fun _ _ _ _ => trivial), hZ.call hS.2.2 (ws_free hS hA) hU hW⟩⟩ rfl hn hls hst (lv_room hcat) hdg hz) hS hA kk
theorem k_VI {y : MethodName} {c' : ByteArray} {n' np idx nL : Nat} {ret' : Option FieldType} {rm : Room} {b : Addr} {As rest st0 : List Value} {K : Int32 → Mem → Prop} (hM : MI l X y c' n' ret' rm (.ref b :: As) σ K) (hF : MFV y c' n' ret' np) (hlink : Cond.methodLink own idx y ∈ gw)
    (hx : p.tables.exec = Jvm.exec) (hb : c.code = cc) (hml : c.maxLocals = nL) (hown : s.vm.findClass own = some m.cls) (ht : ∀ w ∈ gw, w.before args s = true) (hK : va_K (gD X) cls (tysW X) s) (hZ : ZF X A s s.heap) (hS : WS X A s.heap σ H locs) (hA : ∀ q, s.heap.size ≤ q → A q) (q0 ci : Nat) {C : vw_C} {fs : List Value} (hci : cls[ci]? = some C) (hC : C.1 = y.cls) (he : (wW X σ)[q0]? = some (b, .inr (ci, fs)))
    (hrc : rm.cells = 0 ∧ rm.slots = 0) (hR : rm.frames + 1 ≤ R.frames ∧ 8 + (n' + 11) + rm.locals ≤ R.locals) (hn : As.length = np) (hls : ls.size = nL) (hst : st0 = As.reverse ++ .ref b :: rest) (hcat : (rest.map fun v => v.category).sum ≤ 8) (hz : cells ≤ R.cells ∧ slots ≤ R.slots) (hdg : decode cc pc = .ok (.invokevirtual idx, 3))
    (kk : ∀ (r : Int32) (σ : Mem) (H : Heap) (locs : List Loc), WS X A s.heap σ H locs → K r σ → W p l e R s m args below meth c H locs cells slots Q (F0 m (pc + 3) ls (.int r :: rest))) : W p l e R s m args below meth c H locs cells slots Q (F0 m pc ls st0) :=
  k_aftI (k_runV (hM H.size) hF hlink hx hb hml hown ht hK hZ hS hA q0 ci hci hC he hrc hR hn hls hst hcat hz hdg) hS hA kk
theorem k_VV {y : MethodName} {c' : ByteArray} {n' np idx nL : Nat} {ret' : Option FieldType} {rm : Room} {b : Addr} {As rest st0 : List Value} {K : Mem → Prop} (hM : MV l X y c' n' ret' rm (.ref b :: As) σ K) (hF : MFV y c' n' ret' np) (hlink : Cond.methodLink own idx y ∈ gw)
    (hx : p.tables.exec = Jvm.exec) (hb : c.code = cc) (hml : c.maxLocals = nL) (hown : s.vm.findClass own = some m.cls) (ht : ∀ w ∈ gw, w.before args s = true) (hK : va_K (gD X) cls (tysW X) s) (hZ : ZF X A s s.heap) (hS : WS X A s.heap σ H locs) (hA : ∀ q, s.heap.size ≤ q → A q) (q0 ci : Nat) {C : vw_C} {fs : List Value} (hci : cls[ci]? = some C) (hC : C.1 = y.cls) (he : (wW X σ)[q0]? = some (b, .inr (ci, fs)))
    (hrc : rm.cells = 0 ∧ rm.slots = 0) (hR : rm.frames + 1 ≤ R.frames ∧ 8 + (n' + 11) + rm.locals ≤ R.locals) (hn : As.length = np) (hls : ls.size = nL) (hst : st0 = As.reverse ++ .ref b :: rest) (hcat : (rest.map fun v => v.category).sum ≤ 8) (hz : cells ≤ R.cells ∧ slots ≤ R.slots) (hdg : decode cc pc = .ok (.invokevirtual idx, 3))
    (kk : ∀ (σ : Mem) (H : Heap) (locs : List Loc), WS X A s.heap σ H locs → K σ → W p l e R s m args below meth c H locs cells slots Q (F0 m (pc + 3) ls rest)) : W p l e R s m args below meth c H locs cells slots Q (F0 m pc ls st0) :=
  k_aftV (k_runV (hM H.size) hF hlink hx hb hml hown ht hK hZ hS hA q0 ci hci hC he hrc hR hn hls hst hcat hz hdg) hS hA kk
theorem k_SI {y : MethodName} {c' : ByteArray} {n' np idx nL : Nat} {ret' : Option FieldType} {rm : Room} {As rest st0 : List Value} {K : Int32 → Mem → Prop} (hM : MI l X y c' n' ret' rm As σ K) (hF : MFS y c' n' ret' np) (hlink : Cond.methodLink own idx y ∈ gw)
    (hx : p.tables.exec = Jvm.exec) (hb : c.code = cc) (hml : c.maxLocals = nL) (hown : s.vm.findClass own = some m.cls) (ht : ∀ w ∈ gw, w.before args s = true) (hK : va_K (gD X) cls (tysW X) s) (hZ : ZF X A s s.heap) (hS : WS X A s.heap σ H locs) (hA : ∀ q, s.heap.size ≤ q → A q)
    (hrc : rm.cells = 0 ∧ rm.slots = 0) (hR : rm.frames + 1 ≤ R.frames ∧ 8 + (n' + 11) + rm.locals ≤ R.locals) (hn : As.length = np) (hls : ls.size = nL) (hst : st0 = As.reverse ++ rest) (hcat : (rest.map fun v => v.category).sum ≤ 8) (hz : cells ≤ R.cells ∧ slots ≤ R.slots) (hdg : decode cc pc = .ok (.invokestatic idx, 3))
    (kk : ∀ (r : Int32) (σ : Mem) (H : Heap) (locs : List Loc), WS X A s.heap σ H locs → K r σ → W p l e R s m args below meth c H locs cells slots Q (F0 m (pc + 3) ls (.int r :: rest))) : W p l e R s m args below meth c H locs cells slots Q (F0 m pc ls st0) :=
  k_aftI (k_runS (hM H.size) hF hlink hx hb hml hown ht hK hZ hS hA hrc hR hn hls hst hcat hz hdg) hS hA kk
theorem k_SR {y : MethodName} {c' : ByteArray} {n' np idx nL : Nat} {ret' : Option FieldType} {rm : Room} {As rest st0 : List Value} {K : Nat → Mem → Prop} (hM : MR l X y c' n' ret' rm As σ K) (hF : MFS y c' n' ret' np) (hlink : Cond.methodLink own idx y ∈ gw)
    (hx : p.tables.exec = Jvm.exec) (hb : c.code = cc) (hml : c.maxLocals = nL) (hown : s.vm.findClass own = some m.cls) (ht : ∀ w ∈ gw, w.before args s = true) (hK : va_K (gD X) cls (tysW X) s) (hZ : ZF X A s s.heap) (hS : WS X A s.heap σ H locs) (hA : ∀ q, s.heap.size ≤ q → A q)
    (hrc : rm.cells = 0 ∧ rm.slots = 0) (hR : rm.frames + 1 ≤ R.frames ∧ 8 + (n' + 11) + rm.locals ≤ R.locals) (hn : As.length = np) (hls : ls.size = nL) (hst : st0 = As.reverse ++ rest) (hcat : (rest.map fun v => v.category).sum ≤ 8) (hz : cells ≤ R.cells ∧ slots ≤ R.slots) (hdg : decode cc pc = .ok (.invokestatic idx, 3))
    (kk : ∀ (r : Nat) (σ : Mem) (H : Heap) (locs : List Loc), WS X A s.heap σ H locs → K r σ → W p l e R s m args below meth c H locs cells slots Q (F0 m (pc + 3) ls (.ref (gK X r) :: rest))) : W p l e R s m args below meth c H locs cells slots Q (F0 m pc ls st0) := by
  have hF9 := ws_free hS hA
  refine va_callr (k_runS (hM H.size) hF hlink hx hb hml hown ht hK hZ hS hA hrc hR hn hls hst hcat hz hdg) hS.2.2 (fun q _ h => hF9 q h) hF9 (fun u a t H1 locs1 ht hvm hw hB hz1 hk1 hS1 => ?_)
  obtain ⟨ha, hP1, hK1, hD1⟩ := hB
  rw [ht] at hP1
  rw [ha]
  exact kk u.1 u.2 H1 locs1 ⟨hP1, hD1.weaken (fun k q _ h => hF9 q.1 h), hS1⟩ hw
theorem k_SV {y : MethodName} {c' : ByteArray} {n' np idx nL : Nat} {ret' : Option FieldType} {rm : Room} {As rest st0 : List Value} {K : Mem → Prop} (hM : MV l X y c' n' ret' rm As σ K) (hF : MFS y c' n' ret' np) (hlink : Cond.methodLink own idx y ∈ gw)
    (hx : p.tables.exec = Jvm.exec) (hb : c.code = cc) (hml : c.maxLocals = nL) (hown : s.vm.findClass own = some m.cls) (ht : ∀ w ∈ gw, w.before args s = true) (hK : va_K (gD X) cls (tysW X) s) (hZ : ZF X A s s.heap) (hS : WS X A s.heap σ H locs) (hA : ∀ q, s.heap.size ≤ q → A q)
    (hrc : rm.cells = 0 ∧ rm.slots = 0) (hR : rm.frames + 1 ≤ R.frames ∧ 8 + (n' + 11) + rm.locals ≤ R.locals) (hn : As.length = np) (hls : ls.size = nL) (hst : st0 = As.reverse ++ rest) (hcat : (rest.map fun v => v.category).sum ≤ 8) (hz : cells ≤ R.cells ∧ slots ≤ R.slots) (hdg : decode cc pc = .ok (.invokestatic idx, 3))
    (kk : ∀ (σ : Mem) (H : Heap) (locs : List Loc), WS X A s.heap σ H locs → K σ → W p l e R s m args below meth c H locs cells slots Q (F0 m (pc + 3) ls rest)) : W p l e R s m args below meth c H locs cells slots Q (F0 m pc ls st0) :=
  k_aftV (k_runS (hM H.size) hF hlink hx hb hml hown ht hK hZ hS hA hrc hR hn hls hst hcat hz hdg) hS hA kk
theorem k_max (hx : p.tables.exec = Jvm.exec) (hb : c.code = cc) (hml : c.maxLocals = ls.size) (hown : s.vm.findClass own = some m.cls) (ht : ∀ w ∈ gw, w.before args s = true) (hlink : Cond.methodLink own index ⟨"java/lang/Math", "max", "(II)I"⟩ ∈ gw) (hframes : 1 ≤ R.frames) (hlocals : (rest.map fun v => v.category).sum + 13 ≤ R.locals) {x y : Int32} (hdg : decode cc pc = .ok (.invokestatic index, 3))
    (kk : W p l e R s m args below meth c H locs 0 0 Q (F0 m (pc + 3) ls (.int (if x < y then y else x) :: rest))) : W p l e R s m args below meth c H locs 0 0 Q (F0 m pc ls (.int y :: .int x :: rest)) :=
  va_mmax hx hb hml hown (ht _ hlink) (ht _ (gw_t 171 (by decide +kernel) rfl)) (ht _ (gw_t 16 (by decide +kernel) rfl)) (ht _ (gw_t 172 (by decide +kernel) rfl)) hframes hlocals (Nat.zero_le _) (Nat.zero_le _) hdg kk
theorem k_min (hx : p.tables.exec = Jvm.exec) (hb : c.code = cc) (hml : c.maxLocals = ls.size) (hown : s.vm.findClass own = some m.cls) (ht : ∀ w ∈ gw, w.before args s = true) (hlink : Cond.methodLink own index ⟨"java/lang/Math", "min", "(II)I"⟩ ∈ gw) (hframes : 1 ≤ R.frames) (hlocals : (rest.map fun v => v.category).sum + 13 ≤ R.locals) {x y : Int32} (hdg : decode cc pc = .ok (.invokestatic index, 3))
    (kk : W p l e R s m args below meth c H locs 0 0 Q (F0 m (pc + 3) ls (.int (if y < x then y else x) :: rest))) : W p l e R s m args below meth c H locs 0 0 Q (F0 m pc ls (.int y :: .int x :: rest)) :=
  va_mmin hx hb hml hown (ht _ hlink) (ht _ (gw_t 493 (by decide +kernel) rfl)) (ht _ (gw_t 16 (by decide +kernel) rfl)) (ht _ (gw_t 494 (by decide +kernel) rfl)) hframes hlocals (Nat.zero_le _) (Nat.zero_le _) hdg kk
theorem k_copy (hx : p.tables.exec = Jvm.exec) (hb : c.code = cc) (hml : c.maxLocals = ls.size) (hown : s.vm.findClass own = some m.cls) (ht : ∀ w ∈ gw, w.before args s = true) (hlink : Cond.methodLink own index arraycopyName ∈ gw) (hK : va_K (gD X) cls (tysW X) s) (hS : WS X A H0 σ H locs) (q0 q1 : Nat) {a0 a1 : Nat} (h0 : (wW X σ)[q0]? = some (a0, .inl (gc X 0, 179, .inl (σ q0)))) (h1 : (wW X σ)[q1]? = some (a1, .inl (gc X 0, 179, .inl (σ q1))))
    (hframes : 1 ≤ R.frames) (hlocals : (rest.map fun v => v.category).sum + (nativeFrameWords "java/lang/System" "arraycopy" 5 + 11) ≤ R.locals) (hdg : decode cc pc = .ok (.invokestatic index, 3)) (hset : ∀ f, (wW X σ).set q1 (a1, .inl (gc X 0, 179, .inl f)) = wW X (va_up σ q1 f))
    (kk : ∀ (H : Heap) (locs : List Loc), WS X A H0 (cp σ q0 q1) H locs → W p l e R s m args below meth c H locs cells slots Q (F0 m (pc + 3) ls rest)) : W p l e R s m args below meth c H locs cells slots Q (F0 m pc ls (.int 179 :: .int 0 :: .ref a1 :: .int 0 :: .ref a0 :: rest)) := by
  refine va_copyi hx hb hml hown (ht _ hlink) (ht _ (gw_t 394 (by decide +kernel) rfl)) (ht _ (gw_t 393 (by decide +kernel) rfl)) (ht _ (gw_t 15 (by decide +kernel) rfl)) hK hS.1 hS.2.1 hS.2.2 q0 q1 0 0 h0 h1 rfl rfl rfl (by decide) (by decide) (by decide) (by decide) (by decide) (fun i hi => rfl) hframes hlocals hdg (fun H locs hP hD hS => ?_)
  rw [hset] at hP hD
  exact kk H locs ⟨hP, hD, hS⟩

theorem aldk_2 (hx : p.tables.exec = Jvm.exec) (hb : c.code = cc) (hK : va_K (gD X) cls (tysW X) s) (hS : WS X A H0 σ H locs) {i : Int32} (k : Nat) (hin : vp_in i 179) (hi : i.toNatClampNeg = k) (hdg : decode cc pc = .ok (.iaload, 1)) (kk : W p l e R s m args below meth c H locs cells slots Q (F0 m (pc + 1) ls (.int (σ 2 k) :: rest))) : W p l e R s m args below meth c H locs cells slots Q (F0 m pc ls (.int i :: .ref (ga X 2) :: rest)) := by
  subst hi; exact ald_2 hx hb hK hS hin hdg kk

theorem astk_2 (hx : p.tables.exec = Jvm.exec) (hb : c.code = cc) (hK : va_K (gD X) cls (tysW X) s) (hS : WS X A H0 σ H locs) {i x : Int32} (k : Nat) (hin : vp_in i 179) (hi : i.toNatClampNeg = k) (hdg : decode cc pc = .ok (.iastore, 1)) (kk : ∀ (H : Heap) (locs : List Loc), WS X A H0 (st σ 2 k (x)) H locs → W p l e R s m args below meth c H locs cells slots Q (F0 m (pc + 1) ls rest)) : W p l e R s m args below meth c H locs cells slots Q (F0 m pc ls (.int x :: .int i :: .ref (ga X 2) :: rest)) := by
  subst hi; exact ast_2 hx hb hK hS hin hdg kk

theorem aldk_3 (hx : p.tables.exec = Jvm.exec) (hb : c.code = cc) (hK : va_K (gD X) cls (tysW X) s) (hS : WS X A H0 σ H locs) {i : Int32} (k : Nat) (hin : vp_in i 10) (hi : i.toNatClampNeg = k) (hdg : decode cc pc = .ok (.iaload, 1)) (kk : W p l e R s m args below meth c H locs cells slots Q (F0 m (pc + 1) ls (.int (σ 3 k) :: rest))) : W p l e R s m args below meth c H locs cells slots Q (F0 m pc ls (.int i :: .ref (ga X 3) :: rest)) := by
  subst hi; exact ald_3 hx hb hK hS hin hdg kk

theorem astk_3 (hx : p.tables.exec = Jvm.exec) (hb : c.code = cc) (hK : va_K (gD X) cls (tysW X) s) (hS : WS X A H0 σ H locs) {i x : Int32} (k : Nat) (hin : vp_in i 10) (hi : i.toNatClampNeg = k) (hdg : decode cc pc = .ok (.iastore, 1)) (kk : ∀ (H : Heap) (locs : List Loc), WS X A H0 (st σ 3 k (x)) H locs → W p l e R s m args below meth c H locs cells slots Q (F0 m (pc + 1) ls rest)) : W p l e R s m args below meth c H locs cells slots Q (F0 m pc ls (.int x :: .int i :: .ref (ga X 3) :: rest)) := by
  subst hi; exact ast_3 hx hb hK hS hin hdg kk

theorem aldk_6 (hx : p.tables.exec = Jvm.exec) (hb : c.code = cc) (hK : va_K (gD X) cls (tysW X) s) (hS : WS X A H0 σ H locs) {i : Int32} (k : Nat) (hin : vp_in i 179) (hi : i.toNatClampNeg = k) (hdg : decode cc pc = .ok (.iaload, 1)) (kk : W p l e R s m args below meth c H locs cells slots Q (F0 m (pc + 1) ls (.int (σ 6 k) :: rest))) : W p l e R s m args below meth c H locs cells slots Q (F0 m pc ls (.int i :: .ref (ga X 6) :: rest)) := by
  subst hi; exact ald_6 hx hb hK hS hin hdg kk

theorem astk_6 (hx : p.tables.exec = Jvm.exec) (hb : c.code = cc) (hK : va_K (gD X) cls (tysW X) s) (hS : WS X A H0 σ H locs) {i x : Int32} (k : Nat) (hin : vp_in i 179) (hi : i.toNatClampNeg = k) (hdg : decode cc pc = .ok (.iastore, 1)) (kk : ∀ (H : Heap) (locs : List Loc), WS X A H0 (st σ 6 k (x)) H locs → W p l e R s m args below meth c H locs cells slots Q (F0 m (pc + 1) ls rest)) : W p l e R s m args below meth c H locs cells slots Q (F0 m pc ls (.int x :: .int i :: .ref (ga X 6) :: rest)) := by
  subst hi; exact ast_6 hx hb hK hS hin hdg kk

theorem aldk_7 (hx : p.tables.exec = Jvm.exec) (hb : c.code = cc) (hK : va_K (gD X) cls (tysW X) s) (hS : WS X A H0 σ H locs) {i : Int32} (k : Nat) (hin : vp_in i 179) (hi : i.toNatClampNeg = k) (hdg : decode cc pc = .ok (.iaload, 1)) (kk : W p l e R s m args below meth c H locs cells slots Q (F0 m (pc + 1) ls (.int (σ 7 k) :: rest))) : W p l e R s m args below meth c H locs cells slots Q (F0 m pc ls (.int i :: .ref (ga X 7) :: rest)) := by
  subst hi; exact ald_7 hx hb hK hS hin hdg kk

theorem astk_7 (hx : p.tables.exec = Jvm.exec) (hb : c.code = cc) (hK : va_K (gD X) cls (tysW X) s) (hS : WS X A H0 σ H locs) {i x : Int32} (k : Nat) (hin : vp_in i 179) (hi : i.toNatClampNeg = k) (hdg : decode cc pc = .ok (.iastore, 1)) (kk : ∀ (H : Heap) (locs : List Loc), WS X A H0 (st σ 7 k (x)) H locs → W p l e R s m args below meth c H locs cells slots Q (F0 m (pc + 1) ls rest)) : W p l e R s m args below meth c H locs cells slots Q (F0 m pc ls (.int x :: .int i :: .ref (ga X 7) :: rest)) := by
  subst hi; exact ast_7 hx hb hK hS hin hdg kk

theorem aldk_8 (hx : p.tables.exec = Jvm.exec) (hb : c.code = cc) (hK : va_K (gD X) cls (tysW X) s) (hS : WS X A H0 σ H locs) {i : Int32} (k : Nat) (hin : vp_in i 179) (hi : i.toNatClampNeg = k) (hdg : decode cc pc = .ok (.iaload, 1)) (kk : W p l e R s m args below meth c H locs cells slots Q (F0 m (pc + 1) ls (.int (σ 8 k) :: rest))) : W p l e R s m args below meth c H locs cells slots Q (F0 m pc ls (.int i :: .ref (ga X 8) :: rest)) := by
  subst hi; exact ald_8 hx hb hK hS hin hdg kk

theorem astk_8 (hx : p.tables.exec = Jvm.exec) (hb : c.code = cc) (hK : va_K (gD X) cls (tysW X) s) (hS : WS X A H0 σ H locs) {i x : Int32} (k : Nat) (hin : vp_in i 179) (hi : i.toNatClampNeg = k) (hdg : decode cc pc = .ok (.iastore, 1)) (kk : ∀ (H : Heap) (locs : List Loc), WS X A H0 (st σ 8 k (x)) H locs → W p l e R s m args below meth c H locs cells slots Q (F0 m (pc + 1) ls rest)) : W p l e R s m args below meth c H locs cells slots Q (F0 m pc ls (.int x :: .int i :: .ref (ga X 8) :: rest)) := by
  subst hi; exact ast_8 hx hb hK hS hin hdg kk

theorem aldk_9 (hx : p.tables.exec = Jvm.exec) (hb : c.code = cc) (hK : va_K (gD X) cls (tysW X) s) (hS : WS X A H0 σ H locs) {i : Int32} (k : Nat) (hin : vp_in i 179) (hi : i.toNatClampNeg = k) (hdg : decode cc pc = .ok (.iaload, 1)) (kk : W p l e R s m args below meth c H locs cells slots Q (F0 m (pc + 1) ls (.int (σ 9 k) :: rest))) : W p l e R s m args below meth c H locs cells slots Q (F0 m pc ls (.int i :: .ref (ga X 9) :: rest)) := by
  subst hi; exact ald_9 hx hb hK hS hin hdg kk

theorem astk_9 (hx : p.tables.exec = Jvm.exec) (hb : c.code = cc) (hK : va_K (gD X) cls (tysW X) s) (hS : WS X A H0 σ H locs) {i x : Int32} (k : Nat) (hin : vp_in i 179) (hi : i.toNatClampNeg = k) (hdg : decode cc pc = .ok (.iastore, 1)) (kk : ∀ (H : Heap) (locs : List Loc), WS X A H0 (st σ 9 k (x)) H locs → W p l e R s m args below meth c H locs cells slots Q (F0 m (pc + 1) ls rest)) : W p l e R s m args below meth c H locs cells slots Q (F0 m pc ls (.int x :: .int i :: .ref (ga X 9) :: rest)) := by
  subst hi; exact ast_9 hx hb hK hS hin hdg kk

theorem aldk_10 (hx : p.tables.exec = Jvm.exec) (hb : c.code = cc) (hK : va_K (gD X) cls (tysW X) s) (hS : WS X A H0 σ H locs) {i : Int32} (k : Nat) (hin : vp_in i 179) (hi : i.toNatClampNeg = k) (hdg : decode cc pc = .ok (.iaload, 1)) (kk : W p l e R s m args below meth c H locs cells slots Q (F0 m (pc + 1) ls (.int (σ 10 k) :: rest))) : W p l e R s m args below meth c H locs cells slots Q (F0 m pc ls (.int i :: .ref (ga X 10) :: rest)) := by
  subst hi; exact ald_10 hx hb hK hS hin hdg kk

theorem astk_10 (hx : p.tables.exec = Jvm.exec) (hb : c.code = cc) (hK : va_K (gD X) cls (tysW X) s) (hS : WS X A H0 σ H locs) {i x : Int32} (k : Nat) (hin : vp_in i 179) (hi : i.toNatClampNeg = k) (hdg : decode cc pc = .ok (.iastore, 1)) (kk : ∀ (H : Heap) (locs : List Loc), WS X A H0 (st σ 10 k (x)) H locs → W p l e R s m args below meth c H locs cells slots Q (F0 m (pc + 1) ls rest)) : W p l e R s m args below meth c H locs cells slots Q (F0 m pc ls (.int x :: .int i :: .ref (ga X 10) :: rest)) := by
  subst hi; exact ast_10 hx hb hK hS hin hdg kk

theorem aldk_11 (hx : p.tables.exec = Jvm.exec) (hb : c.code = cc) (hK : va_K (gD X) cls (tysW X) s) (hS : WS X A H0 σ H locs) {i : Int32} (k : Nat) (hin : vp_in i 179) (hi : i.toNatClampNeg = k) (hdg : decode cc pc = .ok (.iaload, 1)) (kk : W p l e R s m args below meth c H locs cells slots Q (F0 m (pc + 1) ls (.int (σ 11 k) :: rest))) : W p l e R s m args below meth c H locs cells slots Q (F0 m pc ls (.int i :: .ref (ga X 11) :: rest)) := by
  subst hi; exact ald_11 hx hb hK hS hin hdg kk

theorem astk_11 (hx : p.tables.exec = Jvm.exec) (hb : c.code = cc) (hK : va_K (gD X) cls (tysW X) s) (hS : WS X A H0 σ H locs) {i x : Int32} (k : Nat) (hin : vp_in i 179) (hi : i.toNatClampNeg = k) (hdg : decode cc pc = .ok (.iastore, 1)) (kk : ∀ (H : Heap) (locs : List Loc), WS X A H0 (st σ 11 k (x)) H locs → W p l e R s m args below meth c H locs cells slots Q (F0 m (pc + 1) ls rest)) : W p l e R s m args below meth c H locs cells slots Q (F0 m pc ls (.int x :: .int i :: .ref (ga X 11) :: rest)) := by
  subst hi; exact ast_11 hx hb hK hS hin hdg kk

theorem aldk_12 (hx : p.tables.exec = Jvm.exec) (hb : c.code = cc) (hK : va_K (gD X) cls (tysW X) s) (hS : WS X A H0 σ H locs) {i : Int32} (k : Nat) (hin : vp_in i 179) (hi : i.toNatClampNeg = k) (hdg : decode cc pc = .ok (.iaload, 1)) (kk : W p l e R s m args below meth c H locs cells slots Q (F0 m (pc + 1) ls (.int (σ 12 k) :: rest))) : W p l e R s m args below meth c H locs cells slots Q (F0 m pc ls (.int i :: .ref (ga X 12) :: rest)) := by
  subst hi; exact ald_12 hx hb hK hS hin hdg kk

theorem astk_12 (hx : p.tables.exec = Jvm.exec) (hb : c.code = cc) (hK : va_K (gD X) cls (tysW X) s) (hS : WS X A H0 σ H locs) {i x : Int32} (k : Nat) (hin : vp_in i 179) (hi : i.toNatClampNeg = k) (hdg : decode cc pc = .ok (.iastore, 1)) (kk : ∀ (H : Heap) (locs : List Loc), WS X A H0 (st σ 12 k (x)) H locs → W p l e R s m args below meth c H locs cells slots Q (F0 m (pc + 1) ls rest)) : W p l e R s m args below meth c H locs cells slots Q (F0 m pc ls (.int x :: .int i :: .ref (ga X 12) :: rest)) := by
  subst hi; exact ast_12 hx hb hK hS hin hdg kk

theorem aldk_13 (hx : p.tables.exec = Jvm.exec) (hb : c.code = cc) (hK : va_K (gD X) cls (tysW X) s) (hS : WS X A H0 σ H locs) {i : Int32} (k : Nat) (hin : vp_in i 179) (hi : i.toNatClampNeg = k) (hdg : decode cc pc = .ok (.iaload, 1)) (kk : W p l e R s m args below meth c H locs cells slots Q (F0 m (pc + 1) ls (.int (σ 13 k) :: rest))) : W p l e R s m args below meth c H locs cells slots Q (F0 m pc ls (.int i :: .ref (ga X 13) :: rest)) := by
  subst hi; exact ald_13 hx hb hK hS hin hdg kk

theorem astk_13 (hx : p.tables.exec = Jvm.exec) (hb : c.code = cc) (hK : va_K (gD X) cls (tysW X) s) (hS : WS X A H0 σ H locs) {i x : Int32} (k : Nat) (hin : vp_in i 179) (hi : i.toNatClampNeg = k) (hdg : decode cc pc = .ok (.iastore, 1)) (kk : ∀ (H : Heap) (locs : List Loc), WS X A H0 (st σ 13 k (x)) H locs → W p l e R s m args below meth c H locs cells slots Q (F0 m (pc + 1) ls rest)) : W p l e R s m args below meth c H locs cells slots Q (F0 m pc ls (.int x :: .int i :: .ref (ga X 13) :: rest)) := by
  subst hi; exact ast_13 hx hb hK hS hin hdg kk

theorem aldk_14 (hx : p.tables.exec = Jvm.exec) (hb : c.code = cc) (hK : va_K (gD X) cls (tysW X) s) (hS : WS X A H0 σ H locs) {i : Int32} (k : Nat) (hin : vp_in i 179) (hi : i.toNatClampNeg = k) (hdg : decode cc pc = .ok (.iaload, 1)) (kk : W p l e R s m args below meth c H locs cells slots Q (F0 m (pc + 1) ls (.int (σ 14 k) :: rest))) : W p l e R s m args below meth c H locs cells slots Q (F0 m pc ls (.int i :: .ref (ga X 14) :: rest)) := by
  subst hi; exact ald_14 hx hb hK hS hin hdg kk

theorem astk_14 (hx : p.tables.exec = Jvm.exec) (hb : c.code = cc) (hK : va_K (gD X) cls (tysW X) s) (hS : WS X A H0 σ H locs) {i x : Int32} (k : Nat) (hin : vp_in i 179) (hi : i.toNatClampNeg = k) (hdg : decode cc pc = .ok (.iastore, 1)) (kk : ∀ (H : Heap) (locs : List Loc), WS X A H0 (st σ 14 k (x)) H locs → W p l e R s m args below meth c H locs cells slots Q (F0 m (pc + 1) ls rest)) : W p l e R s m args below meth c H locs cells slots Q (F0 m pc ls (.int x :: .int i :: .ref (ga X 14) :: rest)) := by
  subst hi; exact ast_14 hx hb hK hS hin hdg kk

theorem aldk_16 (hx : p.tables.exec = Jvm.exec) (hb : c.code = cc) (hK : va_K (gD X) cls (tysW X) s) (hS : WS X A H0 σ H locs) {i : Int32} (k : Nat) (hin : vp_in i 5) (hi : i.toNatClampNeg = k) (hdg : decode cc pc = .ok (.iaload, 1)) (kk : W p l e R s m args below meth c H locs cells slots Q (F0 m (pc + 1) ls (.int (σ 16 k) :: rest))) : W p l e R s m args below meth c H locs cells slots Q (F0 m pc ls (.int i :: .ref (ga X 16) :: rest)) := by
  subst hi; exact ald_16 hx hb hK hS hin hdg kk

theorem astk_16 (hx : p.tables.exec = Jvm.exec) (hb : c.code = cc) (hK : va_K (gD X) cls (tysW X) s) (hS : WS X A H0 σ H locs) {i x : Int32} (k : Nat) (hin : vp_in i 5) (hi : i.toNatClampNeg = k) (hdg : decode cc pc = .ok (.iastore, 1)) (kk : ∀ (H : Heap) (locs : List Loc), WS X A H0 (st σ 16 k (x)) H locs → W p l e R s m args below meth c H locs cells slots Q (F0 m (pc + 1) ls rest)) : W p l e R s m args below meth c H locs cells slots Q (F0 m pc ls (.int x :: .int i :: .ref (ga X 16) :: rest)) := by
  subst hi; exact ast_16 hx hb hK hS hin hdg kk

theorem aldk_17 (hx : p.tables.exec = Jvm.exec) (hb : c.code = cc) (hK : va_K (gD X) cls (tysW X) s) (hS : WS X A H0 σ H locs) {i : Int32} (k : Nat) (hin : vp_in i 10) (hi : i.toNatClampNeg = k) (hdg : decode cc pc = .ok (.iaload, 1)) (kk : W p l e R s m args below meth c H locs cells slots Q (F0 m (pc + 1) ls (.int (σ 17 k) :: rest))) : W p l e R s m args below meth c H locs cells slots Q (F0 m pc ls (.int i :: .ref (ga X 17) :: rest)) := by
  subst hi; exact ald_17 hx hb hK hS hin hdg kk

theorem astk_17 (hx : p.tables.exec = Jvm.exec) (hb : c.code = cc) (hK : va_K (gD X) cls (tysW X) s) (hS : WS X A H0 σ H locs) {i x : Int32} (k : Nat) (hin : vp_in i 10) (hi : i.toNatClampNeg = k) (hdg : decode cc pc = .ok (.iastore, 1)) (kk : ∀ (H : Heap) (locs : List Loc), WS X A H0 (st σ 17 k (x)) H locs → W p l e R s m args below meth c H locs cells slots Q (F0 m (pc + 1) ls rest)) : W p l e R s m args below meth c H locs cells slots Q (F0 m pc ls (.int x :: .int i :: .ref (ga X 17) :: rest)) := by
  subst hi; exact ast_17 hx hb hK hS hin hdg kk

theorem aldk_18 (hx : p.tables.exec = Jvm.exec) (hb : c.code = cc) (hK : va_K (gD X) cls (tysW X) s) (hS : WS X A H0 σ H locs) {i : Int32} (k : Nat) (hin : vp_in i 32) (hi : i.toNatClampNeg = k) (hdg : decode cc pc = .ok (.iaload, 1)) (kk : W p l e R s m args below meth c H locs cells slots Q (F0 m (pc + 1) ls (.int (σ 18 k) :: rest))) : W p l e R s m args below meth c H locs cells slots Q (F0 m pc ls (.int i :: .ref (ga X 18) :: rest)) := by
  subst hi; exact ald_18 hx hb hK hS hin hdg kk

theorem astk_18 (hx : p.tables.exec = Jvm.exec) (hb : c.code = cc) (hK : va_K (gD X) cls (tysW X) s) (hS : WS X A H0 σ H locs) {i x : Int32} (k : Nat) (hin : vp_in i 32) (hi : i.toNatClampNeg = k) (hdg : decode cc pc = .ok (.iastore, 1)) (kk : ∀ (H : Heap) (locs : List Loc), WS X A H0 (st σ 18 k (x)) H locs → W p l e R s m args below meth c H locs cells slots Q (F0 m (pc + 1) ls rest)) : W p l e R s m args below meth c H locs cells slots Q (F0 m pc ls (.int x :: .int i :: .ref (ga X 18) :: rest)) := by
  subst hi; exact ast_18 hx hb hK hS hin hdg kk

theorem aldk_20 (hx : p.tables.exec = Jvm.exec) (hb : c.code = cc) (hK : va_K (gD X) cls (tysW X) s) (hS : WS X A H0 σ H locs) {i : Int32} (k : Nat) (hin : vp_in i 60) (hi : i.toNatClampNeg = k) (hdg : decode cc pc = .ok (.caload, 1)) (kk : W p l e R s m args below meth c H locs cells slots Q (F0 m (pc + 1) ls (.int (σ 20 k) :: rest))) : W p l e R s m args below meth c H locs cells slots Q (F0 m pc ls (.int i :: .ref (ga X 20) :: rest)) := by
  subst hi; exact ald_20 hx hb hK hS hin hdg kk

theorem astk_20 (hx : p.tables.exec = Jvm.exec) (hb : c.code = cc) (hK : va_K (gD X) cls (tysW X) s) (hS : WS X A H0 σ H locs) {i x : Int32} (k : Nat) (hin : vp_in i 60) (hi : i.toNatClampNeg = k) (hdg : decode cc pc = .ok (.castore, 1)) (kk : ∀ (H : Heap) (locs : List Loc), WS X A H0 (st σ 20 k (vp_nar .char x)) H locs → W p l e R s m args below meth c H locs cells slots Q (F0 m (pc + 1) ls rest)) : W p l e R s m args below meth c H locs cells slots Q (F0 m pc ls (.int x :: .int i :: .ref (ga X 20) :: rest)) := by
  subst hi; exact ast_20 hx hb hK hS hin hdg kk

theorem aldk_21 (hx : p.tables.exec = Jvm.exec) (hb : c.code = cc) (hK : va_K (gD X) cls (tysW X) s) (hS : WS X A H0 σ H locs) {i : Int32} (k : Nat) (hin : vp_in i 9) (hi : i.toNatClampNeg = k) (hdg : decode cc pc = .ok (.iaload, 1)) (kk : W p l e R s m args below meth c H locs cells slots Q (F0 m (pc + 1) ls (.int (σ 21 k) :: rest))) : W p l e R s m args below meth c H locs cells slots Q (F0 m pc ls (.int i :: .ref (ga X 21) :: rest)) := by
  subst hi; exact ald_21 hx hb hK hS hin hdg kk

theorem astk_21 (hx : p.tables.exec = Jvm.exec) (hb : c.code = cc) (hK : va_K (gD X) cls (tysW X) s) (hS : WS X A H0 σ H locs) {i x : Int32} (k : Nat) (hin : vp_in i 9) (hi : i.toNatClampNeg = k) (hdg : decode cc pc = .ok (.iastore, 1)) (kk : ∀ (H : Heap) (locs : List Loc), WS X A H0 (st σ 21 k (x)) H locs → W p l e R s m args below meth c H locs cells slots Q (F0 m (pc + 1) ls rest)) : W p l e R s m args below meth c H locs cells slots Q (F0 m pc ls (.int x :: .int i :: .ref (ga X 21) :: rest)) := by
  subst hi; exact ast_21 hx hb hK hS hin hdg kk

theorem aldk_22 (hx : p.tables.exec = Jvm.exec) (hb : c.code = cc) (hK : va_K (gD X) cls (tysW X) s) (hS : WS X A H0 σ H locs) {i : Int32} (k : Nat) (hin : vp_in i 27) (hi : i.toNatClampNeg = k) (hdg : decode cc pc = .ok (.iaload, 1)) (kk : W p l e R s m args below meth c H locs cells slots Q (F0 m (pc + 1) ls (.int (σ 22 k) :: rest))) : W p l e R s m args below meth c H locs cells slots Q (F0 m pc ls (.int i :: .ref (ga X 22) :: rest)) := by
  subst hi; exact ald_22 hx hb hK hS hin hdg kk

theorem astk_22 (hx : p.tables.exec = Jvm.exec) (hb : c.code = cc) (hK : va_K (gD X) cls (tysW X) s) (hS : WS X A H0 σ H locs) {i x : Int32} (k : Nat) (hin : vp_in i 27) (hi : i.toNatClampNeg = k) (hdg : decode cc pc = .ok (.iastore, 1)) (kk : ∀ (H : Heap) (locs : List Loc), WS X A H0 (st σ 22 k (x)) H locs → W p l e R s m args below meth c H locs cells slots Q (F0 m (pc + 1) ls rest)) : W p l e R s m args below meth c H locs cells slots Q (F0 m pc ls (.int x :: .int i :: .ref (ga X 22) :: rest)) := by
  subst hi; exact ast_22 hx hb hK hS hin hdg kk

theorem aldk_23 (hx : p.tables.exec = Jvm.exec) (hb : c.code = cc) (hK : va_K (gD X) cls (tysW X) s) (hS : WS X A H0 σ H locs) {i : Int32} (k : Nat) (hin : vp_in i 179) (hi : i.toNatClampNeg = k) (hdg : decode cc pc = .ok (.iaload, 1)) (kk : W p l e R s m args below meth c H locs cells slots Q (F0 m (pc + 1) ls (.int (σ 23 k) :: rest))) : W p l e R s m args below meth c H locs cells slots Q (F0 m pc ls (.int i :: .ref (ga X 23) :: rest)) := by
  subst hi; exact ald_23 hx hb hK hS hin hdg kk

theorem astk_23 (hx : p.tables.exec = Jvm.exec) (hb : c.code = cc) (hK : va_K (gD X) cls (tysW X) s) (hS : WS X A H0 σ H locs) {i x : Int32} (k : Nat) (hin : vp_in i 179) (hi : i.toNatClampNeg = k) (hdg : decode cc pc = .ok (.iastore, 1)) (kk : ∀ (H : Heap) (locs : List Loc), WS X A H0 (st σ 23 k (x)) H locs → W p l e R s m args below meth c H locs cells slots Q (F0 m (pc + 1) ls rest)) : W p l e R s m args below meth c H locs cells slots Q (F0 m pc ls (.int x :: .int i :: .ref (ga X 23) :: rest)) := by
  subst hi; exact ast_23 hx hb hK hS hin hdg kk

theorem aldk_24 (hx : p.tables.exec = Jvm.exec) (hb : c.code = cc) (hK : va_K (gD X) cls (tysW X) s) (hS : WS X A H0 σ H locs) {i : Int32} (k : Nat) (hin : vp_in i 28) (hi : i.toNatClampNeg = k) (hdg : decode cc pc = .ok (.caload, 1)) (kk : W p l e R s m args below meth c H locs cells slots Q (F0 m (pc + 1) ls (.int (σ 24 k) :: rest))) : W p l e R s m args below meth c H locs cells slots Q (F0 m pc ls (.int i :: .ref (ga X 24) :: rest)) := by
  subst hi; exact ald_24 hx hb hK hS hin hdg kk

theorem astk_24 (hx : p.tables.exec = Jvm.exec) (hb : c.code = cc) (hK : va_K (gD X) cls (tysW X) s) (hS : WS X A H0 σ H locs) {i x : Int32} (k : Nat) (hin : vp_in i 28) (hi : i.toNatClampNeg = k) (hdg : decode cc pc = .ok (.castore, 1)) (kk : ∀ (H : Heap) (locs : List Loc), WS X A H0 (st σ 24 k (vp_nar .char x)) H locs → W p l e R s m args below meth c H locs cells slots Q (F0 m (pc + 1) ls rest)) : W p l e R s m args below meth c H locs cells slots Q (F0 m pc ls (.int x :: .int i :: .ref (ga X 24) :: rest)) := by
  subst hi; exact ast_24 hx hb hK hS hin hdg kk

theorem aldk_26 (hx : p.tables.exec = Jvm.exec) (hb : c.code = cc) (hK : va_K (gD X) cls (tysW X) s) (hS : WS X A H0 σ H locs) {i : Int32} (k : Nat) (hin : vp_in i 179) (hi : i.toNatClampNeg = k) (hdg : decode cc pc = .ok (.iaload, 1)) (kk : W p l e R s m args below meth c H locs cells slots Q (F0 m (pc + 1) ls (.int (σ 26 k) :: rest))) : W p l e R s m args below meth c H locs cells slots Q (F0 m pc ls (.int i :: .ref (ga X 26) :: rest)) := by
  subst hi; exact ald_26 hx hb hK hS hin hdg kk

theorem astk_26 (hx : p.tables.exec = Jvm.exec) (hb : c.code = cc) (hK : va_K (gD X) cls (tysW X) s) (hS : WS X A H0 σ H locs) {i x : Int32} (k : Nat) (hin : vp_in i 179) (hi : i.toNatClampNeg = k) (hdg : decode cc pc = .ok (.iastore, 1)) (kk : ∀ (H : Heap) (locs : List Loc), WS X A H0 (st σ 26 k (x)) H locs → W p l e R s m args below meth c H locs cells slots Q (F0 m (pc + 1) ls rest)) : W p l e R s m args below meth c H locs cells slots Q (F0 m pc ls (.int x :: .int i :: .ref (ga X 26) :: rest)) := by
  subst hi; exact ast_26 hx hb hK hS hin hdg kk

theorem aldk_27 (hx : p.tables.exec = Jvm.exec) (hb : c.code = cc) (hK : va_K (gD X) cls (tysW X) s) (hS : WS X A H0 σ H locs) {i : Int32} (k : Nat) (hin : vp_in i 1432) (hi : i.toNatClampNeg = k) (hdg : decode cc pc = .ok (.iaload, 1)) (kk : W p l e R s m args below meth c H locs cells slots Q (F0 m (pc + 1) ls (.int (σ 27 k) :: rest))) : W p l e R s m args below meth c H locs cells slots Q (F0 m pc ls (.int i :: .ref (ga X 27) :: rest)) := by
  subst hi; exact ald_27 hx hb hK hS hin hdg kk

theorem astk_27 (hx : p.tables.exec = Jvm.exec) (hb : c.code = cc) (hK : va_K (gD X) cls (tysW X) s) (hS : WS X A H0 σ H locs) {i x : Int32} (k : Nat) (hin : vp_in i 1432) (hi : i.toNatClampNeg = k) (hdg : decode cc pc = .ok (.iastore, 1)) (kk : ∀ (H : Heap) (locs : List Loc), WS X A H0 (st σ 27 k (x)) H locs → W p l e R s m args below meth c H locs cells slots Q (F0 m (pc + 1) ls rest)) : W p l e R s m args below meth c H locs cells slots Q (F0 m pc ls (.int x :: .int i :: .ref (ga X 27) :: rest)) := by
  subst hi; exact ast_27 hx hb hK hS hin hdg kk

theorem aldk_28 (hx : p.tables.exec = Jvm.exec) (hb : c.code = cc) (hK : va_K (gD X) cls (tysW X) s) (hS : WS X A H0 σ H locs) {i : Int32} (k : Nat) (hin : vp_in i 179) (hi : i.toNatClampNeg = k) (hdg : decode cc pc = .ok (.iaload, 1)) (kk : W p l e R s m args below meth c H locs cells slots Q (F0 m (pc + 1) ls (.int (σ 28 k) :: rest))) : W p l e R s m args below meth c H locs cells slots Q (F0 m pc ls (.int i :: .ref (ga X 28) :: rest)) := by
  subst hi; exact ald_28 hx hb hK hS hin hdg kk

theorem astk_28 (hx : p.tables.exec = Jvm.exec) (hb : c.code = cc) (hK : va_K (gD X) cls (tysW X) s) (hS : WS X A H0 σ H locs) {i x : Int32} (k : Nat) (hin : vp_in i 179) (hi : i.toNatClampNeg = k) (hdg : decode cc pc = .ok (.iastore, 1)) (kk : ∀ (H : Heap) (locs : List Loc), WS X A H0 (st σ 28 k (x)) H locs → W p l e R s m args below meth c H locs cells slots Q (F0 m (pc + 1) ls rest)) : W p l e R s m args below meth c H locs cells slots Q (F0 m pc ls (.int x :: .int i :: .ref (ga X 28) :: rest)) := by
  subst hi; exact ast_28 hx hb hK hS hin hdg kk

theorem aldk_29 (hx : p.tables.exec = Jvm.exec) (hb : c.code = cc) (hK : va_K (gD X) cls (tysW X) s) (hS : WS X A H0 σ H locs) {i : Int32} (k : Nat) (hin : vp_in i 179) (hi : i.toNatClampNeg = k) (hdg : decode cc pc = .ok (.iaload, 1)) (kk : W p l e R s m args below meth c H locs cells slots Q (F0 m (pc + 1) ls (.int (σ 29 k) :: rest))) : W p l e R s m args below meth c H locs cells slots Q (F0 m pc ls (.int i :: .ref (ga X 29) :: rest)) := by
  subst hi; exact ald_29 hx hb hK hS hin hdg kk

theorem astk_29 (hx : p.tables.exec = Jvm.exec) (hb : c.code = cc) (hK : va_K (gD X) cls (tysW X) s) (hS : WS X A H0 σ H locs) {i x : Int32} (k : Nat) (hin : vp_in i 179) (hi : i.toNatClampNeg = k) (hdg : decode cc pc = .ok (.iastore, 1)) (kk : ∀ (H : Heap) (locs : List Loc), WS X A H0 (st σ 29 k (x)) H locs → W p l e R s m args below meth c H locs cells slots Q (F0 m (pc + 1) ls rest)) : W p l e R s m args below meth c H locs cells slots Q (F0 m pc ls (.int x :: .int i :: .ref (ga X 29) :: rest)) := by
  subst hi; exact ast_29 hx hb hK hS hin hdg kk

theorem aldk_30 (hx : p.tables.exec = Jvm.exec) (hb : c.code = cc) (hK : va_K (gD X) cls (tysW X) s) (hS : WS X A H0 σ H locs) {i : Int32} (k : Nat) (hin : vp_in i 60) (hi : i.toNatClampNeg = k) (hdg : decode cc pc = .ok (.iaload, 1)) (kk : W p l e R s m args below meth c H locs cells slots Q (F0 m (pc + 1) ls (.int (σ 30 k) :: rest))) : W p l e R s m args below meth c H locs cells slots Q (F0 m pc ls (.int i :: .ref (ga X 30) :: rest)) := by
  subst hi; exact ald_30 hx hb hK hS hin hdg kk

theorem astk_30 (hx : p.tables.exec = Jvm.exec) (hb : c.code = cc) (hK : va_K (gD X) cls (tysW X) s) (hS : WS X A H0 σ H locs) {i x : Int32} (k : Nat) (hin : vp_in i 60) (hi : i.toNatClampNeg = k) (hdg : decode cc pc = .ok (.iastore, 1)) (kk : ∀ (H : Heap) (locs : List Loc), WS X A H0 (st σ 30 k (x)) H locs → W p l e R s m args below meth c H locs cells slots Q (F0 m (pc + 1) ls rest)) : W p l e R s m args below meth c H locs cells slots Q (F0 m pc ls (.int x :: .int i :: .ref (ga X 30) :: rest)) := by
  subst hi; exact ast_30 hx hb hK hS hin hdg kk

theorem aldk_31 (hx : p.tables.exec = Jvm.exec) (hb : c.code = cc) (hK : va_K (gD X) cls (tysW X) s) (hS : WS X A H0 σ H locs) {i : Int32} (k : Nat) (hin : vp_in i 60) (hi : i.toNatClampNeg = k) (hdg : decode cc pc = .ok (.caload, 1)) (kk : W p l e R s m args below meth c H locs cells slots Q (F0 m (pc + 1) ls (.int (σ 31 k) :: rest))) : W p l e R s m args below meth c H locs cells slots Q (F0 m pc ls (.int i :: .ref (ga X 31) :: rest)) := by
  subst hi; exact ald_31 hx hb hK hS hin hdg kk

theorem astk_31 (hx : p.tables.exec = Jvm.exec) (hb : c.code = cc) (hK : va_K (gD X) cls (tysW X) s) (hS : WS X A H0 σ H locs) {i x : Int32} (k : Nat) (hin : vp_in i 60) (hi : i.toNatClampNeg = k) (hdg : decode cc pc = .ok (.castore, 1)) (kk : ∀ (H : Heap) (locs : List Loc), WS X A H0 (st σ 31 k (vp_nar .char x)) H locs → W p l e R s m args below meth c H locs cells slots Q (F0 m (pc + 1) ls rest)) : W p l e R s m args below meth c H locs cells slots Q (F0 m pc ls (.int x :: .int i :: .ref (ga X 31) :: rest)) := by
  subst hi; exact ast_31 hx hb hK hS hin hdg kk

theorem aldk_32 (hx : p.tables.exec = Jvm.exec) (hb : c.code = cc) (hK : va_K (gD X) cls (tysW X) s) (hS : WS X A H0 σ H locs) {i : Int32} (k : Nat) (hin : vp_in i 32) (hi : i.toNatClampNeg = k) (hdg : decode cc pc = .ok (.iaload, 1)) (kk : W p l e R s m args below meth c H locs cells slots Q (F0 m (pc + 1) ls (.int (σ 32 k) :: rest))) : W p l e R s m args below meth c H locs cells slots Q (F0 m pc ls (.int i :: .ref (ga X 32) :: rest)) := by
  subst hi; exact ald_32 hx hb hK hS hin hdg kk

theorem astk_32 (hx : p.tables.exec = Jvm.exec) (hb : c.code = cc) (hK : va_K (gD X) cls (tysW X) s) (hS : WS X A H0 σ H locs) {i x : Int32} (k : Nat) (hin : vp_in i 32) (hi : i.toNatClampNeg = k) (hdg : decode cc pc = .ok (.iastore, 1)) (kk : ∀ (H : Heap) (locs : List Loc), WS X A H0 (st σ 32 k (x)) H locs → W p l e R s m args below meth c H locs cells slots Q (F0 m (pc + 1) ls rest)) : W p l e R s m args below meth c H locs cells slots Q (F0 m pc ls (.int x :: .int i :: .ref (ga X 32) :: rest)) := by
  subst hi; exact ast_32 hx hb hK hS hin hdg kk

theorem aldk_33 (hx : p.tables.exec = Jvm.exec) (hb : c.code = cc) (hK : va_K (gD X) cls (tysW X) s) (hS : WS X A H0 σ H locs) {i : Int32} (k : Nat) (hin : vp_in i 124) (hi : i.toNatClampNeg = k) (hdg : decode cc pc = .ok (.iaload, 1)) (kk : W p l e R s m args below meth c H locs cells slots Q (F0 m (pc + 1) ls (.int (σ 33 k) :: rest))) : W p l e R s m args below meth c H locs cells slots Q (F0 m pc ls (.int i :: .ref (ga X 33) :: rest)) := by
  subst hi; exact ald_33 hx hb hK hS hin hdg kk

theorem astk_33 (hx : p.tables.exec = Jvm.exec) (hb : c.code = cc) (hK : va_K (gD X) cls (tysW X) s) (hS : WS X A H0 σ H locs) {i x : Int32} (k : Nat) (hin : vp_in i 124) (hi : i.toNatClampNeg = k) (hdg : decode cc pc = .ok (.iastore, 1)) (kk : ∀ (H : Heap) (locs : List Loc), WS X A H0 (st σ 33 k (x)) H locs → W p l e R s m args below meth c H locs cells slots Q (F0 m (pc + 1) ls rest)) : W p l e R s m args below meth c H locs cells slots Q (F0 m pc ls (.int x :: .int i :: .ref (ga X 33) :: rest)) := by
  subst hi; exact ast_33 hx hb hK hS hin hdg kk

theorem rows9 {x : Int32} (h : vp_in x 9) : x = 0 ∨ x = 1 ∨ x = 2 ∨ x = 3 ∨ x = 4 ∨ x = 5 ∨ x = 6 ∨ x = 7 ∨ x = 8 := by
  obtain ⟨j, hj, rfl⟩ := vp_in_of h (by decide)
  rcases (show j = 0 ∨ j = 1 ∨ j = 2 ∨ j = 3 ∨ j = 4 ∨ j = 5 ∨ j = 6 ∨ j = 7 ∨ j = 8 by omega) with rfl | rfl | rfl | rfl | rfl | rfl | rfl | rfl | rfl <;> decide
theorem aldr_5 (hx : p.tables.exec = Jvm.exec) (hb : c.code = cc) (hK : va_K (gD X) cls (tysW X) s) (hS : WS X A H0 σ H locs) {i : Int32} (k : Nat) (hk : k < 9) (hi : i.toNatClampNeg = k) (hin : vp_in i 9) (hdg : decode cc pc = .ok (.aaload, 1)) (kk : W p l e R s m args below meth c H locs cells slots Q (F0 m (pc + 1) ls (.ref (ga X (6 + k)) :: rest))) : W p l e R s m args below meth c H locs cells slots Q (F0 m pc ls (.int i :: .ref (ga X 5) :: rest)) := by
  subst hi
  exact W.aald (v := .ref (ga X (6 + i.toNatClampNeg))) hx hb (hS.1 5 _ rfl) ((hK.2 2 _ rfl).1 9 (fun j => va_rf (some (ga X (6 + j))))) rfl (fun q => by cases q) (by show ¬ (i < 0 ∨ (arrV _ _ _).slots.size ≤ _); rw [arrV_size]; exact hin) (by show (arrV _ _ _).slots[_]? = _; rw [arrV_read _ _ hk]; rfl) rfl rfl hdg kk

end G2
