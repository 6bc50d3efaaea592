abbrev cX2_gates : ByteArray := prog_4_method_4_code
def yX2_gates : MethodName := ⟨"GuardRoster$Roster", "gates", "()I"⟩
abbrev cX2_guards : ByteArray := prog_4_method_5_code
def yX2_guards : MethodName := ⟨"GuardRoster$Roster", "guards", "()I"⟩
abbrev cX2_rationsLeft : ByteArray := prog_4_method_6_code
def yX2_rationsLeft : MethodName := ⟨"GuardRoster$Roster", "rationsLeft", "()I"⟩
abbrev cX2_now : ByteArray := prog_4_method_7_code
def yX2_now : MethodName := ⟨"GuardRoster$Roster", "now", "()I"⟩
abbrev cX2_isGate : ByteArray := prog_4_method_8_code
def yX2_isGate : MethodName := ⟨"GuardRoster$Roster", "isGate", "(I)Z"⟩
abbrev cX2_isGuard : ByteArray := prog_4_method_9_code
def yX2_isGuard : MethodName := ⟨"GuardRoster$Roster", "isGuard", "(I)Z"⟩
abbrev cX2_isSlot : ByteArray := prog_4_method_10_code
def yX2_isSlot : MethodName := ⟨"GuardRoster$Roster", "isSlot", "(I)Z"⟩
abbrev cX2_hasPassed : ByteArray := prog_4_method_11_code
def yX2_hasPassed : MethodName := ⟨"GuardRoster$Roster", "hasPassed", "(I)Z"⟩
abbrev cX2_rankNeededAt : ByteArray := prog_4_method_12_code
def yX2_rankNeededAt : MethodName := ⟨"GuardRoster$Roster", "rankNeededAt", "(I)I"⟩
abbrev cX2_rankOf : ByteArray := prog_4_method_13_code
def yX2_rankOf : MethodName := ⟨"GuardRoster$Roster", "rankOf", "(I)I"⟩
abbrev cX2_faintsOf : ByteArray := prog_4_method_14_code
def yX2_faintsOf : MethodName := ⟨"GuardRoster$Roster", "faintsOf", "(I)I"⟩
abbrev cX2_appendGate : ByteArray := prog_4_method_15_code
def yX2_appendGate : MethodName := ⟨"GuardRoster$Roster", "appendGate", "(I)I"⟩
abbrev cX2_appendGuard : ByteArray := prog_4_method_16_code
def yX2_appendGuard : MethodName := ⟨"GuardRoster$Roster", "appendGuard", "(I)I"⟩
abbrev cX2_guardOn : ByteArray := prog_4_method_17_code
def yX2_guardOn : MethodName := ⟨"GuardRoster$Roster", "guardOn", "(II)I"⟩
abbrev cX2_setDuty : ByteArray := prog_4_method_18_code
def yX2_setDuty : MethodName := ⟨"GuardRoster$Roster", "setDuty", "(III)V"⟩
abbrev cX2_gateHeld : ByteArray := prog_4_method_19_code
def yX2_gateHeld : MethodName := ⟨"GuardRoster$Roster", "gateHeld", "(II)I"⟩
abbrev cX2_firstGateHeld : ByteArray := prog_4_method_20_code
def yX2_firstGateHeld : MethodName := ⟨"GuardRoster$Roster", "firstGateHeld", "(III)I"⟩
abbrev cX2_dutyTotal : ByteArray := prog_4_method_21_code
def yX2_dutyTotal : MethodName := ⟨"GuardRoster$Roster", "dutyTotal", "(I)I"⟩
abbrev cX2_openGatesIn : ByteArray := prog_4_method_23_code
def yX2_openGatesIn : MethodName := ⟨"GuardRoster$Roster", "openGatesIn", "(I)I"⟩
abbrev cX2_openSlotsOf : ByteArray := prog_4_method_24_code
def yX2_openSlotsOf : MethodName := ⟨"GuardRoster$Roster", "openSlotsOf", "(I)I"⟩
abbrev cX2_allDuties : ByteArray := prog_4_method_22_code
def yX2_allDuties : MethodName := ⟨"GuardRoster$Roster", "allDuties", "(I)I"⟩
abbrev cX2_hasLeave : ByteArray := prog_4_method_36_code
def yX2_hasLeave : MethodName := ⟨"GuardRoster$Roster", "hasLeave", "(II)Z"⟩
abbrev cX2_reasonAgainst : ByteArray := prog_4_method_25_code
def yX2_reasonAgainst : MethodName := ⟨"GuardRoster$Roster", "reasonAgainst", "(III)I"⟩
abbrev cX2_detailOf : ByteArray := prog_4_method_26_code
def yX2_detailOf : MethodName := ⟨"GuardRoster$Roster", "detailOf", "(IIII)I"⟩
abbrev cX2_nextSlotOf : ByteArray := prog_4_method_27_code
def yX2_nextSlotOf : MethodName := ⟨"GuardRoster$Roster", "nextSlotOf", "(I)I"⟩
abbrev cX2_longestGap : ByteArray := prog_4_method_28_code
def yX2_longestGap : MethodName := ⟨"GuardRoster$Roster", "longestGap", "(I)I"⟩
abbrev cX2_allRest : ByteArray := prog_4_method_29_code
def yX2_allRest : MethodName := ⟨"GuardRoster$Roster", "allRest", "()Z"⟩
abbrev cX2_computeOrderKeys : ByteArray := prog_4_method_30_code
def yX2_computeOrderKeys : MethodName := ⟨"GuardRoster$Roster", "computeOrderKeys", "()V"⟩
abbrev cX2_guardsBefore : ByteArray := prog_4_method_32_code
def yX2_guardsBefore : MethodName := ⟨"GuardRoster$Roster", "guardsBefore", "(I)I"⟩
abbrev cX2_guardInOrder : ByteArray := prog_4_method_31_code
def yX2_guardInOrder : MethodName := ⟨"GuardRoster$Roster", "guardInOrder", "(I)I"⟩
abbrev cX2_mostNeedingGate : ByteArray := prog_4_method_34_code
def yX2_mostNeedingGate : MethodName := ⟨"GuardRoster$Roster", "mostNeedingGate", "(I)I"⟩
abbrev cX2_firstGuardFor : ByteArray := prog_4_method_35_code
def yX2_firstGuardFor : MethodName := ⟨"GuardRoster$Roster", "firstGuardFor", "(II)I"⟩
abbrev cX2_fill : ByteArray := prog_4_method_33_code
def yX2_fill : MethodName := ⟨"GuardRoster$Roster", "fill", "(I)I"⟩
abbrev cX2_dropLeave : ByteArray := prog_4_method_39_code
def yX2_dropLeave : MethodName := ⟨"GuardRoster$Roster", "dropLeave", "(II)V"⟩
abbrev cX2_store : ByteArray := prog_4_method_40_code
def yX2_store : MethodName := ⟨"GuardRoster$Roster", "store", "(I)V"⟩
abbrev cX2_feedGuardsOf : ByteArray := prog_4_method_42_code
def yX2_feedGuardsOf : MethodName := ⟨"GuardRoster$Roster", "feedGuardsOf", "(I)I"⟩
abbrev cX2_letPass : ByteArray := prog_4_method_41_code
def yX2_letPass : MethodName := ⟨"GuardRoster$Roster", "letPass", "(I)I"⟩
abbrev cX2_copyTo : ByteArray := prog_4_method_2_code
def yX2_copyTo : MethodName := ⟨"GuardRoster$Roster", "copyTo", "([I)V"⟩
abbrev cX2_copyFrom : ByteArray := prog_4_method_3_code
def yX2_copyFrom : MethodName := ⟨"GuardRoster$Roster", "copyFrom", "([I)V"⟩
abbrev cX1_size : ByteArray := prog_3_method_2_code
def yX1_size : MethodName := ⟨"GuardRoster$History", "size", "()I"⟩
abbrev cX1_begin : ByteArray := prog_3_method_4_code
def yX1_begin : MethodName := ⟨"GuardRoster$History", "begin", "(LGuardRoster$Roster;)V"⟩
abbrev cX1_end : ByteArray := prog_3_method_5_code
def yX1_end : MethodName := ⟨"GuardRoster$History", "end", "()V"⟩
abbrev cX1_keep : ByteArray := prog_3_method_3_code
def yX1_keep : MethodName := ⟨"GuardRoster$History", "keep", "(LGuardRoster$Roster;)V"⟩
abbrev cX1_backOut : ByteArray := prog_3_method_6_code
def yX1_backOut : MethodName := ⟨"GuardRoster$History", "backOut", "(LGuardRoster$Roster;)V"⟩
abbrev cX1_takeBack : ByteArray := prog_3_method_7_code
def yX1_takeBack : MethodName := ⟨"GuardRoster$History", "takeBack", "(LGuardRoster$Roster;)V"⟩
abbrev cX1_forget : ByteArray := prog_3_method_8_code
def yX1_forget : MethodName := ⟨"GuardRoster$History", "forget", "()V"⟩
abbrev cJ6_numberOfTrailingZeros_0f7a4 : ByteArray := prog_17_method_48_code
def yJ6_numberOfTrailingZeros_0f7a4 : MethodName := ⟨"java/lang/Integer", "numberOfTrailingZeros", "(I)I"⟩
abbrev cJ6_bitCount_0f7a4 : ByteArray := prog_17_method_49_code
def yJ6_bitCount_0f7a4 : MethodName := ⟨"java/lang/Integer", "bitCount", "(I)I"⟩
abbrev cX3_guardsThatFit : ByteArray := prog_5_method_3_code
def yX3_guardsThatFit : MethodName := ⟨"GuardRoster$SlotPlan", "guardsThatFit", "(LGuardRoster$Roster;II)I"⟩
abbrev cX3_prepare : ByteArray := prog_5_method_2_code
def yX3_prepare : MethodName := ⟨"GuardRoster$SlotPlan", "prepare", "(LGuardRoster$Roster;I)V"⟩
abbrev cX3_finds : ByteArray := prog_5_method_5_code
def yX3_finds : MethodName := ⟨"GuardRoster$SlotPlan", "finds", "(LGuardRoster$SlotPlan;II)Z"⟩
abbrev cX3_countByPaths : ByteArray := prog_5_method_4_code
def yX3_countByPaths : MethodName := ⟨"GuardRoster$SlotPlan", "countByPaths", "()I"⟩
abbrev cX3_countBySets : ByteArray := prog_5_method_6_code
def yX3_countBySets : MethodName := ⟨"GuardRoster$SlotPlan", "countBySets", "()I"⟩
abbrev cX0_isFull : ByteArray := prog_2_method_2_code
def yX0_isFull : MethodName := ⟨"GuardRoster$CommandText", "isFull", "()Z"⟩
abbrev cX0_append : ByteArray := prog_2_method_3_code
def yX0_append : MethodName := ⟨"GuardRoster$CommandText", "append", "(C)I"⟩
abbrev cX0_empty : ByteArray := prog_2_method_4_code
def yX0_empty : MethodName := ⟨"GuardRoster$CommandText", "empty", "()V"⟩
abbrev cX0_commands : ByteArray := prog_2_method_5_code
def yX0_commands : MethodName := ⟨"GuardRoster$CommandText", "commands", "()I"⟩
abbrev cX0_firstWrong : ByteArray := prog_2_method_6_code
def yX0_firstWrong : MethodName := ⟨"GuardRoster$CommandText", "firstWrong", "()I"⟩
abbrev cX0_kind : ByteArray := prog_2_method_7_code
def yX0_kind : MethodName := ⟨"GuardRoster$CommandText", "kind", "(I)I"⟩
abbrev cX0_value : ByteArray := prog_2_method_8_code
def yX0_value : MethodName := ⟨"GuardRoster$CommandText", "value", "(II)I"⟩
abbrev cX0_isDigit : ByteArray := prog_2_method_15_code
def yX0_isDigit : MethodName := ⟨"GuardRoster$CommandText", "isDigit", "(I)Z"⟩
abbrev cX0_characterAt : ByteArray := prog_2_method_14_code
def yX0_characterAt : MethodName := ⟨"GuardRoster$CommandText", "characterAt", "(I)I"⟩
abbrev cX0_keepValue : ByteArray := prog_2_method_13_code
def yX0_keepValue : MethodName := ⟨"GuardRoster$CommandText", "keepValue", "(II)V"⟩
abbrev cX4_isRank : ByteArray := prog_1_method_56_code
def yX4_isRank : MethodName := ⟨"GuardRoster", "isRank", "(I)Z"⟩
abbrev cX4_problemOfGate : ByteArray := prog_1_method_57_code
def yX4_problemOfGate : MethodName := ⟨"GuardRoster", "problemOfGate", "(I)I"⟩
abbrev cX4_problemOfGuard : ByteArray := prog_1_method_58_code
def yX4_problemOfGuard : MethodName := ⟨"GuardRoster", "problemOfGuard", "(I)I"⟩
abbrev cX4_keepRefusal : ByteArray := prog_1_method_68_code
def yX4_keepRefusal : MethodName := ⟨"GuardRoster", "keepRefusal", "(II)V"⟩
abbrev cX4_isRefused : ByteArray := prog_1_method_66_code
def yX4_isRefused : MethodName := ⟨"GuardRoster", "isRefused", "(III)Z"⟩
abbrev cX4_problemOfDuty : ByteArray := prog_1_method_59_code
def yX4_problemOfDuty : MethodName := ⟨"GuardRoster", "problemOfDuty", "(III)I"⟩
abbrev cX4_problemOfFreeing : ByteArray := prog_1_method_60_code
def yX4_problemOfFreeing : MethodName := ⟨"GuardRoster", "problemOfFreeing", "(II)I"⟩
abbrev cX4_isExchangeRefused : ByteArray := prog_1_method_67_code
def yX4_isExchangeRefused : MethodName := ⟨"GuardRoster", "isExchangeRefused", "(IIII)Z"⟩
abbrev cX4_problemOfExchange : ByteArray := prog_1_method_61_code
def yX4_problemOfExchange : MethodName := ⟨"GuardRoster", "problemOfExchange", "(IIII)I"⟩
abbrev cX4_problemOfFilling : ByteArray := prog_1_method_62_code
def yX4_problemOfFilling : MethodName := ⟨"GuardRoster", "problemOfFilling", "(I)I"⟩
abbrev cX2_leaveTotal : ByteArray := prog_4_method_37_code
def yX2_leaveTotal : MethodName := ⟨"GuardRoster$Roster", "leaveTotal", "(I)I"⟩
abbrev cX2_addLeave : ByteArray := prog_4_method_38_code
def yX2_addLeave : MethodName := ⟨"GuardRoster$Roster", "addLeave", "(III)I"⟩
abbrev cX4_problemOfLeave : ByteArray := prog_1_method_63_code
def yX4_problemOfLeave : MethodName := ⟨"GuardRoster", "problemOfLeave", "(III)I"⟩
abbrev cX4_problemOfFood : ByteArray := prog_1_method_64_code
def yX4_problemOfFood : MethodName := ⟨"GuardRoster", "problemOfFood", "(I)I"⟩
abbrev cX4_problemOfPassing : ByteArray := prog_1_method_65_code
def yX4_problemOfPassing : MethodName := ⟨"GuardRoster", "problemOfPassing", "(I)I"⟩
abbrev cX4_problemOfCommand : ByteArray := prog_1_method_70_code
def yX4_problemOfCommand : MethodName := ⟨"GuardRoster", "problemOfCommand", "(IIII)I"⟩
abbrev cX4_carryOut : ByteArray := prog_1_method_71_code
def yX4_carryOut : MethodName := ⟨"GuardRoster", "carryOut", "(IIII)V"⟩
abbrev cX4_runs : ByteArray := prog_1_method_69_code
def yX4_runs : MethodName := ⟨"GuardRoster", "runs", "(I)Z"⟩
abbrev cX4_put : ByteArray := prog_1_method_72_code
def yX4_put : MethodName := ⟨"GuardRoster", "put", "(C)V"⟩
abbrev cX4_putNumber : ByteArray := prog_1_method_73_code
def yX4_putNumber : MethodName := ⟨"GuardRoster", "putNumber", "(I)V"⟩
abbrev cX4_putNumberOr : ByteArray := prog_1_method_74_code
def yX4_putNumberOr : MethodName := ⟨"GuardRoster", "putNumberOr", "(IC)V"⟩
abbrev cX4_gateCount : ByteArray := prog_1_method_4_code
def yX4_gateCount : MethodName := ⟨"GuardRoster", "gateCount", "()I"⟩
abbrev cX4_guardCount : ByteArray := prog_1_method_5_code
def yX4_guardCount : MethodName := ⟨"GuardRoster", "guardCount", "()I"⟩
abbrev cX4_dutyCount : ByteArray := prog_1_method_17_code
def yX4_dutyCount : MethodName := ⟨"GuardRoster", "dutyCount", "()I"⟩
abbrev cX4_openPlaces : ByteArray := prog_1_method_19_code
def yX4_openPlaces : MethodName := ⟨"GuardRoster", "openPlaces", "()I"⟩
abbrev cX4_openPlacesBySlots : ByteArray := prog_1_method_20_code
def yX4_openPlacesBySlots : MethodName := ⟨"GuardRoster", "openPlacesBySlots", "()I"⟩
abbrev cX4_rations : ByteArray := prog_1_method_32_code
def yX4_rations : MethodName := ⟨"GuardRoster", "rations", "()I"⟩
abbrev cX4_currentSlot : ByteArray := prog_1_method_33_code
def yX4_currentSlot : MethodName := ⟨"GuardRoster", "currentSlot", "()I"⟩
abbrev cX4_missingRations : ByteArray := prog_1_method_34_code
def yX4_missingRations : MethodName := ⟨"GuardRoster", "missingRations", "()I"⟩
abbrev cX4_undoCount : ByteArray := prog_1_method_48_code
def yX4_undoCount : MethodName := ⟨"GuardRoster", "undoCount", "()I"⟩
abbrev cX4_save : ByteArray := prog_1_method_49_code
def yX4_save : MethodName := ⟨"GuardRoster", "save", "()I"⟩
abbrev cX5_thrown : ByteArray := prog_7_method_2_code
def yX5_thrown : MethodName := ⟨"GuardRosterModel", "thrown", "()I"⟩
abbrev cX5_fails : ByteArray := prog_7_method_3_code
def yX5_fails : MethodName := ⟨"GuardRosterModel", "fails", "(I)Z"⟩
abbrev cX5_in : ByteArray := prog_7_method_4_code
def yX5_in : MethodName := ⟨"GuardRosterModel", "in", "(III)Z"⟩
abbrev cX5_copies : ByteArray := prog_7_method_5_code
def yX5_copies : MethodName := ⟨"GuardRosterModel", "copies", "([II[II)V"⟩
abbrev cX5_keeps : ByteArray := prog_7_method_6_code
def yX5_keeps : MethodName := ⟨"GuardRosterModel", "keeps", "([I)V"⟩
abbrev cX5_isGate : ByteArray := prog_7_method_7_code
def yX5_isGate : MethodName := ⟨"GuardRosterModel", "isGate", "(I)Z"⟩
abbrev cX5_isGuard : ByteArray := prog_7_method_8_code
def yX5_isGuard : MethodName := ⟨"GuardRosterModel", "isGuard", "(I)Z"⟩
abbrev cX5_isSlot : ByteArray := prog_7_method_9_code
def yX5_isSlot : MethodName := ⟨"GuardRosterModel", "isSlot", "(I)Z"⟩
abbrev cX5_arePlace : ByteArray := prog_7_method_10_code
def yX5_arePlace : MethodName := ⟨"GuardRosterModel", "arePlace", "(II)Z"⟩
abbrev cX5_ranked : ByteArray := prog_7_method_11_code
def yX5_ranked : MethodName := ⟨"GuardRosterModel", "ranked", "(I)I"⟩
abbrev cX5_who : ByteArray := prog_7_method_12_code
def yX5_who : MethodName := ⟨"GuardRosterModel", "who", "(II)I"⟩
abbrev cX5_puts : ByteArray := prog_7_method_13_code
def yX5_puts : MethodName := ⟨"GuardRosterModel", "puts", "(III)V"⟩
abbrev cX5_where : ByteArray := prog_7_method_14_code
def yX5_where : MethodName := ⟨"GuardRosterModel", "where", "(II)I"⟩
abbrev cX5_isOff : ByteArray := prog_7_method_15_code
def yX5_isOff : MethodName := ⟨"GuardRosterModel", "isOff", "(II)Z"⟩
abbrev cX5_addGate : ByteArray := prog_7_method_16_code
def yX5_addGate : MethodName := ⟨"GuardRosterModel", "addGate", "(I)I"⟩
abbrev cX5_addGuard : ByteArray := prog_7_method_17_code
def yX5_addGuard : MethodName := ⟨"GuardRosterModel", "addGuard", "(I)I"⟩
abbrev cX5_gateCount : ByteArray := prog_7_method_18_code
def yX5_gateCount : MethodName := ⟨"GuardRosterModel", "gateCount", "()I"⟩
abbrev cX5_guardCount : ByteArray := prog_7_method_19_code
def yX5_guardCount : MethodName := ⟨"GuardRosterModel", "guardCount", "()I"⟩
abbrev cX5_neededRank : ByteArray := prog_7_method_20_code
def yX5_neededRank : MethodName := ⟨"GuardRosterModel", "neededRank", "(I)I"⟩
abbrev cX5_isNone : ByteArray := prog_7_method_21_code
def yX5_isNone : MethodName := ⟨"GuardRosterModel", "isNone", "(I)Z"⟩
abbrev cX5_rank : ByteArray := prog_7_method_22_code
def yX5_rank : MethodName := ⟨"GuardRosterModel", "rank", "(I)I"⟩
abbrev cX5_faints : ByteArray := prog_7_method_23_code
def yX5_faints : MethodName := ⟨"GuardRosterModel", "faints", "(I)I"⟩
abbrev cX5_refuses : ByteArray := prog_7_method_24_code
def yX5_refuses : MethodName := ⟨"GuardRosterModel", "refuses", "(III)I"⟩
abbrev cX5_isRefused : ByteArray := prog_7_method_25_code
def yX5_isRefused : MethodName := ⟨"GuardRosterModel", "isRefused", "(IIII)Z"⟩
abbrev cX5_duties : ByteArray := prog_7_method_26_code
def yX5_duties : MethodName := ⟨"GuardRosterModel", "duties", "(I)I"⟩
abbrev cX5_assign : ByteArray := prog_7_method_27_code
def yX5_assign : MethodName := ⟨"GuardRosterModel", "assign", "(III)I"⟩
abbrev cX5_canAssign : ByteArray := prog_7_method_28_code
def yX5_canAssign : MethodName := ⟨"GuardRosterModel", "canAssign", "(III)Z"⟩
abbrev cX5_remove : ByteArray := prog_7_method_29_code
def yX5_remove : MethodName := ⟨"GuardRosterModel", "remove", "(II)I"⟩
abbrev cX5_exchange : ByteArray := prog_7_method_30_code
def yX5_exchange : MethodName := ⟨"GuardRosterModel", "exchange", "(IIII)I"⟩
abbrev cX5_nextGate : ByteArray := prog_7_method_31_code
def yX5_nextGate : MethodName := ⟨"GuardRosterModel", "nextGate", "(II)I"⟩
abbrev cX5_isAhead : ByteArray := prog_7_method_32_code
def yX5_isAhead : MethodName := ⟨"GuardRosterModel", "isAhead", "(II)Z"⟩
abbrev cX5_chosen : ByteArray := prog_7_method_33_code
def yX5_chosen : MethodName := ⟨"GuardRosterModel", "chosen", "(II)I"⟩
abbrev cX5_fillSlot : ByteArray := prog_7_method_34_code
def yX5_fillSlot : MethodName := ⟨"GuardRosterModel", "fillSlot", "(I)I"⟩
abbrev cX5_guardAt : ByteArray := prog_7_method_35_code
def yX5_guardAt : MethodName := ⟨"GuardRosterModel", "guardAt", "(II)I"⟩
abbrev cX5_gateOf : ByteArray := prog_7_method_36_code
def yX5_gateOf : MethodName := ⟨"GuardRosterModel", "gateOf", "(II)I"⟩
abbrev cX5_dutiesOf : ByteArray := prog_7_method_37_code
def yX5_dutiesOf : MethodName := ⟨"GuardRosterModel", "dutiesOf", "(I)I"⟩
abbrev cX5_allDuties : ByteArray := prog_7_method_38_code
def yX5_allDuties : MethodName := ⟨"GuardRosterModel", "allDuties", "()I"⟩
abbrev cX5_dutyCount : ByteArray := prog_7_method_39_code
def yX5_dutyCount : MethodName := ⟨"GuardRosterModel", "dutyCount", "()I"⟩
abbrev cX5_open : ByteArray := prog_7_method_40_code
def yX5_open : MethodName := ⟨"GuardRosterModel", "open", "(I)I"⟩
abbrev cX5_openGates : ByteArray := prog_7_method_41_code
def yX5_openGates : MethodName := ⟨"GuardRosterModel", "openGates", "(I)I"⟩
abbrev cX5_openFromNow : ByteArray := prog_7_method_42_code
def yX5_openFromNow : MethodName := ⟨"GuardRosterModel", "openFromNow", "()I"⟩
abbrev cX5_openPlaces : ByteArray := prog_7_method_43_code
def yX5_openPlaces : MethodName := ⟨"GuardRosterModel", "openPlaces", "()I"⟩
abbrev cX5_openPlacesBySlots : ByteArray := prog_7_method_44_code
def yX5_openPlacesBySlots : MethodName := ⟨"GuardRosterModel", "openPlacesBySlots", "()I"⟩
abbrev cX5_most : ByteArray := prog_7_method_45_code
def yX5_most : MethodName := ⟨"GuardRosterModel", "most", "(I)I"⟩
abbrev cX5_mostDuties : ByteArray := prog_7_method_46_code
def yX5_mostDuties : MethodName := ⟨"GuardRosterModel", "mostDuties", "(I)I"⟩
abbrev cX5_mostDutiesBySets : ByteArray := prog_7_method_47_code
def yX5_mostDutiesBySets : MethodName := ⟨"GuardRosterModel", "mostDutiesBySets", "(I)I"⟩
abbrev cX5_following : ByteArray := prog_7_method_48_code
def yX5_following : MethodName := ⟨"GuardRosterModel", "following", "(I)I"⟩
abbrev cX5_nextDuty : ByteArray := prog_7_method_49_code
def yX5_nextDuty : MethodName := ⟨"GuardRosterModel", "nextDuty", "(I)I"⟩
abbrev cX5_longestRest : ByteArray := prog_7_method_50_code
def yX5_longestRest : MethodName := ⟨"GuardRosterModel", "longestRest", "(I)I"⟩
abbrev cX5_guardByDuties : ByteArray := prog_7_method_51_code
def yX5_guardByDuties : MethodName := ⟨"GuardRosterModel", "guardByDuties", "(I)I"⟩
abbrev cX5_bits : ByteArray := prog_7_method_52_code
def yX5_bits : MethodName := ⟨"GuardRosterModel", "bits", "(I)I"⟩
abbrev cX5_grantLeave : ByteArray := prog_7_method_53_code
def yX5_grantLeave : MethodName := ⟨"GuardRosterModel", "grantLeave", "(III)I"⟩
abbrev cX5_endLeave : ByteArray := prog_7_method_54_code
def yX5_endLeave : MethodName := ⟨"GuardRosterModel", "endLeave", "(II)I"⟩
abbrev cX5_isOnLeave : ByteArray := prog_7_method_55_code
def yX5_isOnLeave : MethodName := ⟨"GuardRosterModel", "isOnLeave", "(II)Z"⟩
abbrev cX5_leaveSlots : ByteArray := prog_7_method_56_code
def yX5_leaveSlots : MethodName := ⟨"GuardRosterModel", "leaveSlots", "(I)I"⟩
abbrev cX5_addRations : ByteArray := prog_7_method_57_code
def yX5_addRations : MethodName := ⟨"GuardRosterModel", "addRations", "(I)I"⟩
abbrev cX5_goes : ByteArray := prog_7_method_58_code
def yX5_goes : MethodName := ⟨"GuardRosterModel", "goes", "()I"⟩
abbrev cX5_passSlots : ByteArray := prog_7_method_59_code
def yX5_passSlots : MethodName := ⟨"GuardRosterModel", "passSlots", "(I)I"⟩
abbrev cX5_rations : ByteArray := prog_7_method_60_code
def yX5_rations : MethodName := ⟨"GuardRosterModel", "rations", "()I"⟩
abbrev cX5_currentSlot : ByteArray := prog_7_method_61_code
def yX5_currentSlot : MethodName := ⟨"GuardRosterModel", "currentSlot", "()I"⟩
abbrev cX5_missingRations : ByteArray := prog_7_method_62_code
def yX5_missingRations : MethodName := ⟨"GuardRosterModel", "missingRations", "()I"⟩
abbrev cX5_refusalReason : ByteArray := prog_7_method_63_code
def yX5_refusalReason : MethodName := ⟨"GuardRosterModel", "refusalReason", "()I"⟩
abbrev cX5_refusalDetail : ByteArray := prog_7_method_64_code
def yX5_refusalDetail : MethodName := ⟨"GuardRosterModel", "refusalDetail", "()I"⟩
abbrev cX5_writes : ByteArray := prog_7_method_67_code
def yX5_writes : MethodName := ⟨"GuardRosterModel", "writes", "(I)V"⟩
abbrev cX5_writeSlot : ByteArray := prog_7_method_68_code
def yX5_writeSlot : MethodName := ⟨"GuardRosterModel", "writeSlot", "(I)I"⟩
abbrev cX5_writeGuard : ByteArray := prog_7_method_69_code
def yX5_writeGuard : MethodName := ⟨"GuardRosterModel", "writeGuard", "(I)I"⟩
abbrev cX5_outputCharacter : ByteArray := prog_7_method_70_code
def yX5_outputCharacter : MethodName := ⟨"GuardRosterModel", "outputCharacter", "(I)C"⟩
abbrev cX5_isConsistent : ByteArray := prog_7_method_71_code
def yX5_isConsistent : MethodName := ⟨"GuardRosterModel", "isConsistent", "()Z"⟩
abbrev cX5_feed : ByteArray := prog_7_method_72_code
def yX5_feed : MethodName := ⟨"GuardRosterModel", "feed", "(C)I"⟩
abbrev cX5_here : ByteArray := prog_7_method_73_code
def yX5_here : MethodName := ⟨"GuardRosterModel", "here", "()I"⟩
abbrev cX5_skips : ByteArray := prog_7_method_74_code
def yX5_skips : MethodName := ⟨"GuardRosterModel", "skips", "(I)Z"⟩
abbrev cX5_figures : ByteArray := prog_7_method_76_code
def yX5_figures : MethodName := ⟨"GuardRosterModel", "figures", "(III)Z"⟩
abbrev cX5_carries : ByteArray := prog_7_method_81_code
def yX5_carries : MethodName := ⟨"GuardRosterModel", "carries", "(I)I"⟩
abbrev cX5_errorPosition : ByteArray := prog_7_method_83_code
def yX5_errorPosition : MethodName := ⟨"GuardRosterModel", "errorPosition", "()I"⟩
abbrev cX5_failedCommand : ByteArray := prog_7_method_84_code
def yX5_failedCommand : MethodName := ⟨"GuardRosterModel", "failedCommand", "()I"⟩
abbrev cX5_undo : ByteArray := prog_7_method_85_code
def yX5_undo : MethodName := ⟨"GuardRosterModel", "undo", "()I"⟩
abbrev cX5_undoCount : ByteArray := prog_7_method_86_code
def yX5_undoCount : MethodName := ⟨"GuardRosterModel", "undoCount", "()I"⟩
abbrev cX5_save : ByteArray := prog_7_method_87_code
def yX5_save : MethodName := ⟨"GuardRosterModel", "save", "()I"⟩
abbrev cX5_restore : ByteArray := prog_7_method_88_code
def yX5_restore : MethodName := ⟨"GuardRosterModel", "restore", "()I"⟩
theorem lk38 : Cond.fieldLink "GuardRoster$Roster" (11 : Nat) "GuardRoster$Roster" "cells" "[I" ∈ gw := gw_t 38 (by decide +kernel) rfl
theorem lk39 : Cond.fieldLink "GuardRoster$Roster" (15 : Nat) "GuardRoster$Roster" "orderKeys" "[I" ∈ gw := gw_t 39 (by decide +kernel) rfl
theorem lk54 : Cond.fieldLink "GuardRoster$History" (15 : Nat) "GuardRoster$History" "rows" "[[I" ∈ gw := gw_t 54 (by decide +kernel) rfl
theorem lk55 : Cond.fieldLink "GuardRoster$History" (29 : Nat) "GuardRoster$History" "next" "I" ∈ gw := gw_t 55 (by decide +kernel) rfl
theorem lk56 : Cond.fieldLink "GuardRoster$History" (18 : Nat) "GuardRoster$History" "size" "I" ∈ gw := gw_t 56 (by decide +kernel) rfl
theorem lk70 : Cond.fieldLink "GuardRoster$SlotPlan" (9 : Nat) "GuardRoster$SlotPlan" "fits" "[I" ∈ gw := gw_t 70 (by decide +kernel) rfl
theorem lk71 : Cond.fieldLink "GuardRoster$SlotPlan" (15 : Nat) "GuardRoster$SlotPlan" "gateGiven" "[I" ∈ gw := gw_t 71 (by decide +kernel) rfl
theorem lk72 : Cond.fieldLink "GuardRoster$SlotPlan" (39 : Nat) "GuardRoster$SlotPlan" "triedGuards" "I" ∈ gw := gw_t 72 (by decide +kernel) rfl
theorem lk73 : Cond.fieldLink "GuardRoster$SlotPlan" (18 : Nat) "GuardRoster$SlotPlan" "guardsOfSet" "[I" ∈ gw := gw_t 73 (by decide +kernel) rfl
theorem lk89 : Cond.fieldLink "GuardRoster$CommandText" (9 : Nat) "GuardRoster$CommandText" "characters" "[C" ∈ gw := gw_t 89 (by decide +kernel) rfl
theorem lk90 : Cond.fieldLink "GuardRoster$CommandText" (22 : Nat) "GuardRoster$CommandText" "length" "I" ∈ gw := gw_t 90 (by decide +kernel) rfl
theorem lk91 : Cond.fieldLink "GuardRoster$CommandText" (15 : Nat) "GuardRoster$CommandText" "kinds" "[I" ∈ gw := gw_t 91 (by decide +kernel) rfl
theorem lk92 : Cond.fieldLink "GuardRoster$CommandText" (19 : Nat) "GuardRoster$CommandText" "values" "[I" ∈ gw := gw_t 92 (by decide +kernel) rfl
theorem lk93 : Cond.fieldLink "GuardRoster$CommandText" (26 : Nat) "GuardRoster$CommandText" "count" "I" ∈ gw := gw_t 93 (by decide +kernel) rfl
theorem lk94 : Cond.fieldLink "GuardRoster$CommandText" (29 : Nat) "GuardRoster$CommandText" "wrong" "I" ∈ gw := gw_t 94 (by decide +kernel) rfl
theorem lk109 : Cond.fieldLink "GuardRoster" (10 : Nat) "GuardRoster" "roster" "LGuardRoster$Roster;" ∈ gw := gw_t 109 (by decide +kernel) rfl
theorem lk110 : Cond.fieldLink "GuardRoster" (19 : Nat) "GuardRoster" "history" "LGuardRoster$History;" ∈ gw := gw_t 110 (by decide +kernel) rfl
theorem lk112 : Cond.fieldLink "GuardRoster" (33 : Nat) "GuardRoster" "text" "LGuardRoster$CommandText;" ∈ gw := gw_t 112 (by decide +kernel) rfl
theorem lk113 : Cond.fieldLink "GuardRoster" (37 : Nat) "GuardRoster" "savedCells" "[I" ∈ gw := gw_t 113 (by decide +kernel) rfl
theorem lk114 : Cond.fieldLink "GuardRoster" (347 : Nat) "GuardRoster" "saved" "Z" ∈ gw := gw_t 114 (by decide +kernel) rfl
theorem lk115 : Cond.fieldLink "GuardRoster" (41 : Nat) "GuardRoster" "output" "[C" ∈ gw := gw_t 115 (by decide +kernel) rfl
theorem lk116 : Cond.fieldLink "GuardRoster" (253 : Nat) "GuardRoster" "outputLength" "I" ∈ gw := gw_t 116 (by decide +kernel) rfl
theorem lk117 : Cond.fieldLink "GuardRoster" (240 : Nat) "GuardRoster" "latestReason" "I" ∈ gw := gw_t 117 (by decide +kernel) rfl
theorem lk118 : Cond.fieldLink "GuardRoster" (243 : Nat) "GuardRoster" "latestDetail" "I" ∈ gw := gw_t 118 (by decide +kernel) rfl
theorem lk150 : Cond.methodLink "GuardRoster" (73 : Nat) ({ cls := "GuardRoster$Roster", name := "gates", desc := "()I" } : Jvm.MethodName) ∈ gw := gw_t 150 (by decide +kernel) rfl
theorem lk158 : Cond.methodLink "GuardRoster" (77 : Nat) ({ cls := "GuardRoster$Roster", name := "guards", desc := "()I" } : Jvm.MethodName) ∈ gw := gw_t 158 (by decide +kernel) rfl
theorem lk166 : Cond.methodLink "GuardRoster" (161 : Nat) ({ cls := "GuardRoster$Roster", name := "allDuties", desc := "(I)I" } : Jvm.MethodName) ∈ gw := gw_t 166 (by decide +kernel) rfl
theorem lk170 : Cond.methodLink "GuardRoster$Roster" (38 : Nat) ({ cls := "java/lang/Math", name := "max", desc := "(II)I" } : Jvm.MethodName) ∈ gw := gw_t 170 (by decide +kernel) rfl
theorem lk173 : Cond.methodLink "GuardRoster$Roster" (43 : Nat) ({ cls := "GuardRoster$Roster", name := "gates", desc := "()I" } : Jvm.MethodName) ∈ gw := gw_t 173 (by decide +kernel) rfl
theorem lk174 : Cond.methodLink "GuardRoster$Roster" (47 : Nat) ({ cls := "GuardRoster$Roster", name := "openGatesIn", desc := "(I)I" } : Jvm.MethodName) ∈ gw := gw_t 174 (by decide +kernel) rfl
theorem lk178 : Cond.methodLink "GuardRoster$Roster" (51 : Nat) ({ cls := "GuardRoster$Roster", name := "guardOn", desc := "(II)I" } : Jvm.MethodName) ∈ gw := gw_t 178 (by decide +kernel) rfl
theorem lk182 : Cond.methodLink "GuardRoster$Roster" (24 : Nat) ({ cls := "GuardRoster$Roster", name := "isGate", desc := "(I)Z" } : Jvm.MethodName) ∈ gw := gw_t 182 (by decide +kernel) rfl
theorem lk186 : Cond.methodLink "GuardRoster$Roster" (31 : Nat) ({ cls := "GuardRoster$Roster", name := "isSlot", desc := "(I)Z" } : Jvm.MethodName) ∈ gw := gw_t 186 (by decide +kernel) rfl
theorem lk194 : Cond.methodLink "GuardRoster" (170 : Nat) ({ cls := "GuardRoster$Roster", name := "openSlotsOf", desc := "(I)I" } : Jvm.MethodName) ∈ gw := gw_t 194 (by decide +kernel) rfl
theorem lk198 : Cond.methodLink "GuardRoster$Roster" (54 : Nat) ({ cls := "GuardRoster$Roster", name := "now", desc := "()I" } : Jvm.MethodName) ∈ gw := gw_t 198 (by decide +kernel) rfl
theorem lk206 : Cond.methodLink "GuardRoster" (173 : Nat) ({ cls := "GuardRoster$Roster", name := "now", desc := "()I" } : Jvm.MethodName) ∈ gw := gw_t 206 (by decide +kernel) rfl
theorem lk207 : Cond.methodLink "GuardRoster" (167 : Nat) ({ cls := "GuardRoster$Roster", name := "openGatesIn", desc := "(I)I" } : Jvm.MethodName) ∈ gw := gw_t 207 (by decide +kernel) rfl
theorem lk212 : Cond.methodLink "GuardRoster" (223 : Nat) ({ cls := "GuardRoster$Roster", name := "rationsLeft", desc := "()I" } : Jvm.MethodName) ∈ gw := gw_t 212 (by decide +kernel) rfl
theorem lk224 : Cond.methodLink "GuardRoster" (232 : Nat) ({ cls := "java/lang/Math", name := "max", desc := "(II)I" } : Jvm.MethodName) ∈ gw := gw_t 224 (by decide +kernel) rfl
theorem lk239 : Cond.methodLink "GuardRoster" (114 : Nat) ({ cls := "GuardRoster$Roster", name := "isSlot", desc := "(I)Z" } : Jvm.MethodName) ∈ gw := gw_t 239 (by decide +kernel) rfl
theorem lk316 : Cond.methodLink "GuardRoster$SlotPlan" (21 : Nat) ({ cls := "GuardRoster$Roster", name := "isGate", desc := "(I)Z" } : Jvm.MethodName) ∈ gw := gw_t 316 (by decide +kernel) rfl
theorem lk317 : Cond.methodLink "GuardRoster$SlotPlan" (27 : Nat) ({ cls := "GuardRoster$SlotPlan", name := "guardsThatFit", desc := "(LGuardRoster$Roster;II)I" } : Jvm.MethodName) ∈ gw := gw_t 317 (by decide +kernel) rfl
theorem lk320 : Cond.methodLink "GuardRoster$SlotPlan" (31 : Nat) ({ cls := "GuardRoster$Roster", name := "guards", desc := "()I" } : Jvm.MethodName) ∈ gw := gw_t 320 (by decide +kernel) rfl
theorem lk321 : Cond.methodLink "GuardRoster$SlotPlan" (35 : Nat) ({ cls := "GuardRoster$Roster", name := "reasonAgainst", desc := "(III)I" } : Jvm.MethodName) ∈ gw := gw_t 321 (by decide +kernel) rfl
theorem lk325 : Cond.methodLink "GuardRoster$Roster" (57 : Nat) ({ cls := "GuardRoster$Roster", name := "rankOf", desc := "(I)I" } : Jvm.MethodName) ∈ gw := gw_t 325 (by decide +kernel) rfl
theorem lk329 : Cond.methodLink "GuardRoster$Roster" (28 : Nat) ({ cls := "GuardRoster$Roster", name := "isGuard", desc := "(I)Z" } : Jvm.MethodName) ∈ gw := gw_t 329 (by decide +kernel) rfl
theorem lk333 : Cond.methodLink "GuardRoster$Roster" (60 : Nat) ({ cls := "GuardRoster$Roster", name := "rankNeededAt", desc := "(I)I" } : Jvm.MethodName) ∈ gw := gw_t 333 (by decide +kernel) rfl
theorem lk337 : Cond.methodLink "GuardRoster$Roster" (63 : Nat) ({ cls := "GuardRoster$Roster", name := "hasLeave", desc := "(II)Z" } : Jvm.MethodName) ∈ gw := gw_t 337 (by decide +kernel) rfl
theorem lk341 : Cond.methodLink "GuardRoster$Roster" (34 : Nat) ({ cls := "GuardRoster$Roster", name := "gateHeld", desc := "(II)I" } : Jvm.MethodName) ∈ gw := gw_t 341 (by decide +kernel) rfl
theorem lk349 : Cond.methodLink "GuardRoster$SlotPlan" (43 : Nat) ({ cls := "GuardRoster$SlotPlan", name := "finds", desc := "(LGuardRoster$SlotPlan;II)Z" } : Jvm.MethodName) ∈ gw := gw_t 349 (by decide +kernel) rfl
theorem lk360 : Cond.methodLink "GuardRoster$SlotPlan" (47 : Nat) ({ cls := "java/lang/Integer", name := "numberOfTrailingZeros", desc := "(I)I" } : Jvm.MethodName) ∈ gw := gw_t 360 (by decide +kernel) rfl
theorem lk363 : Cond.constant "java/lang/Integer" (264 : Nat) (65536 : Int32) ∈ gw := gw_t 363 (by decide +kernel) rfl
theorem lk364 : Cond.methodLink "GuardRoster$SlotPlan" (53 : Nat) ({ cls := "java/lang/Integer", name := "bitCount", desc := "(I)I" } : Jvm.MethodName) ∈ gw := gw_t 364 (by decide +kernel) rfl
theorem lk367 : Cond.constant "java/lang/Integer" (265 : Nat) (1431655765 : Int32) ∈ gw := gw_t 367 (by decide +kernel) rfl
theorem lk368 : Cond.constant "java/lang/Integer" (266 : Nat) (858993459 : Int32) ∈ gw := gw_t 368 (by decide +kernel) rfl
theorem lk369 : Cond.constant "java/lang/Integer" (267 : Nat) (252645135 : Int32) ∈ gw := gw_t 369 (by decide +kernel) rfl
theorem lk370 : Cond.methodLink "GuardRoster$SlotPlan" (56 : Nat) ({ cls := "java/lang/Math", name := "max", desc := "(II)I" } : Jvm.MethodName) ∈ gw := gw_t 370 (by decide +kernel) rfl
theorem lk375 : Cond.methodLink "GuardRoster$Roster" (67 : Nat) ({ cls := "GuardRoster$Roster", name := "guards", desc := "()I" } : Jvm.MethodName) ∈ gw := gw_t 375 (by decide +kernel) rfl
theorem lk380 : Cond.methodLink "GuardRoster" (335 : Nat) ({ cls := "GuardRoster$History", name := "size", desc := "()I" } : Jvm.MethodName) ∈ gw := gw_t 380 (by decide +kernel) rfl
theorem lk388 : Cond.methodLink "GuardRoster" (343 : Nat) ({ cls := "GuardRoster$Roster", name := "copyTo", desc := "([I)V" } : Jvm.MethodName) ∈ gw := gw_t 388 (by decide +kernel) rfl
theorem lk392 : Cond.methodLink "GuardRoster$Roster" (18 : Nat) ({ cls := "java/lang/System", name := "arraycopy", desc := "(Ljava/lang/Object;ILjava/lang/Object;II)V" } : Jvm.MethodName) ∈ gw := gw_t 392 (by decide +kernel) rfl
theorem lk404 : Cond.methodLink "GuardRoster" (52 : Nat) ({ cls := "GuardRoster", name := "problemOfGate", desc := "(I)I" } : Jvm.MethodName) ∈ gw := gw_t 404 (by decide +kernel) rfl
theorem lk408 : Cond.methodLink "GuardRoster" (373 : Nat) ({ cls := "GuardRoster", name := "isRank", desc := "(I)Z" } : Jvm.MethodName) ∈ gw := gw_t 408 (by decide +kernel) rfl
theorem lk483 : Cond.methodLink "GuardRoster$History" (22 : Nat) ({ cls := "GuardRoster$History", name := "begin", desc := "(LGuardRoster$Roster;)V" } : Jvm.MethodName) ∈ gw := gw_t 483 (by decide +kernel) rfl
theorem lk487 : Cond.methodLink "GuardRoster$History" (32 : Nat) ({ cls := "GuardRoster$Roster", name := "copyTo", desc := "([I)V" } : Jvm.MethodName) ∈ gw := gw_t 487 (by decide +kernel) rfl
theorem lk488 : Cond.methodLink "GuardRoster$History" (26 : Nat) ({ cls := "GuardRoster$History", name := "end", desc := "()V" } : Jvm.MethodName) ∈ gw := gw_t 488 (by decide +kernel) rfl
theorem lk492 : Cond.methodLink "GuardRoster$History" (36 : Nat) ({ cls := "java/lang/Math", name := "min", desc := "(II)I" } : Jvm.MethodName) ∈ gw := gw_t 492 (by decide +kernel) rfl
theorem lk495 : Cond.methodLink "GuardRoster" (64 : Nat) ({ cls := "GuardRoster$Roster", name := "appendGate", desc := "(I)I" } : Jvm.MethodName) ∈ gw := gw_t 495 (by decide +kernel) rfl
theorem lk506 : Cond.methodLink "GuardRoster" (67 : Nat) ({ cls := "GuardRoster", name := "problemOfGuard", desc := "(I)I" } : Jvm.MethodName) ∈ gw := gw_t 506 (by decide +kernel) rfl
theorem lk510 : Cond.methodLink "GuardRoster" (70 : Nat) ({ cls := "GuardRoster$Roster", name := "appendGuard", desc := "(I)I" } : Jvm.MethodName) ∈ gw := gw_t 510 (by decide +kernel) rfl
theorem lk542 : Cond.methodLink "GuardRoster" (80 : Nat) ({ cls := "GuardRoster$Roster", name := "isGate", desc := "(I)Z" } : Jvm.MethodName) ∈ gw := gw_t 542 (by decide +kernel) rfl
theorem lk556 : Cond.methodLink "GuardRoster" (117 : Nat) ({ cls := "GuardRoster$Roster", name := "isGuard", desc := "(I)Z" } : Jvm.MethodName) ∈ gw := gw_t 556 (by decide +kernel) rfl
theorem lk578 : Cond.methodLink "GuardRoster" (103 : Nat) ({ cls := "GuardRoster", name := "problemOfDuty", desc := "(III)I" } : Jvm.MethodName) ∈ gw := gw_t 578 (by decide +kernel) rfl
theorem lk582 : Cond.methodLink "GuardRoster" (122 : Nat) ({ cls := "GuardRoster$Roster", name := "hasPassed", desc := "(I)Z" } : Jvm.MethodName) ∈ gw := gw_t 582 (by decide +kernel) rfl
theorem lk586 : Cond.methodLink "GuardRoster" (376 : Nat) ({ cls := "GuardRoster", name := "isRefused", desc := "(III)Z" } : Jvm.MethodName) ∈ gw := gw_t 586 (by decide +kernel) rfl
theorem lk590 : Cond.methodLink "GuardRoster" (125 : Nat) ({ cls := "GuardRoster$Roster", name := "reasonAgainst", desc := "(III)I" } : Jvm.MethodName) ∈ gw := gw_t 590 (by decide +kernel) rfl
theorem lk591 : Cond.methodLink "GuardRoster" (390 : Nat) ({ cls := "GuardRoster$Roster", name := "detailOf", desc := "(IIII)I" } : Jvm.MethodName) ∈ gw := gw_t 591 (by decide +kernel) rfl
theorem lk595 : Cond.methodLink "GuardRoster" (387 : Nat) ({ cls := "GuardRoster", name := "keepRefusal", desc := "(II)V" } : Jvm.MethodName) ∈ gw := gw_t 595 (by decide +kernel) rfl
theorem lk599 : Cond.methodLink "GuardRoster" (107 : Nat) ({ cls := "GuardRoster$Roster", name := "setDuty", desc := "(III)V" } : Jvm.MethodName) ∈ gw := gw_t 599 (by decide +kernel) rfl
theorem lk622 : Cond.methodLink "GuardRoster" (128 : Nat) ({ cls := "GuardRoster", name := "problemOfFreeing", desc := "(II)I" } : Jvm.MethodName) ∈ gw := gw_t 622 (by decide +kernel) rfl
theorem lk626 : Cond.methodLink "GuardRoster" (132 : Nat) ({ cls := "GuardRoster$Roster", name := "guardOn", desc := "(II)I" } : Jvm.MethodName) ∈ gw := gw_t 626 (by decide +kernel) rfl
theorem lk638 : Cond.methodLink "GuardRoster" (380 : Nat) ({ cls := "GuardRoster", name := "isExchangeRefused", desc := "(IIII)Z" } : Jvm.MethodName) ∈ gw := gw_t 638 (by decide +kernel) rfl
theorem lk649 : Cond.methodLink "GuardRoster" (139 : Nat) ({ cls := "GuardRoster", name := "problemOfFilling", desc := "(I)I" } : Jvm.MethodName) ∈ gw := gw_t 649 (by decide +kernel) rfl
theorem lk653 : Cond.methodLink "GuardRoster" (142 : Nat) ({ cls := "GuardRoster$Roster", name := "fill", desc := "(I)I" } : Jvm.MethodName) ∈ gw := gw_t 653 (by decide +kernel) rfl
theorem lk657 : Cond.methodLink "GuardRoster$Roster" (73 : Nat) ({ cls := "GuardRoster$Roster", name := "computeOrderKeys", desc := "()V" } : Jvm.MethodName) ∈ gw := gw_t 657 (by decide +kernel) rfl
theorem lk661 : Cond.methodLink "GuardRoster$Roster" (70 : Nat) ({ cls := "GuardRoster$Roster", name := "dutyTotal", desc := "(I)I" } : Jvm.MethodName) ∈ gw := gw_t 661 (by decide +kernel) rfl
theorem lk662 : Cond.methodLink "GuardRoster$Roster" (79 : Nat) ({ cls := "GuardRoster$Roster", name := "mostNeedingGate", desc := "(I)I" } : Jvm.MethodName) ∈ gw := gw_t 662 (by decide +kernel) rfl
theorem lk666 : Cond.methodLink "GuardRoster$Roster" (82 : Nat) ({ cls := "GuardRoster$Roster", name := "firstGuardFor", desc := "(II)I" } : Jvm.MethodName) ∈ gw := gw_t 666 (by decide +kernel) rfl
theorem lk670 : Cond.methodLink "GuardRoster$Roster" (89 : Nat) ({ cls := "GuardRoster$Roster", name := "reasonAgainst", desc := "(III)I" } : Jvm.MethodName) ∈ gw := gw_t 670 (by decide +kernel) rfl
theorem lk671 : Cond.methodLink "GuardRoster$Roster" (85 : Nat) ({ cls := "GuardRoster$Roster", name := "setDuty", desc := "(III)V" } : Jvm.MethodName) ∈ gw := gw_t 671 (by decide +kernel) rfl
theorem lk751 : Cond.methodLink "GuardRoster$Roster" (76 : Nat) ({ cls := "GuardRoster$Roster", name := "guardsBefore", desc := "(I)I" } : Jvm.MethodName) ∈ gw := gw_t 751 (by decide +kernel) rfl
theorem lk762 : Cond.methodLink "GuardRoster" (199 : Nat) ({ cls := "GuardRoster", name := "problemOfLeave", desc := "(III)I" } : Jvm.MethodName) ∈ gw := gw_t 762 (by decide +kernel) rfl
theorem lk766 : Cond.methodLink "GuardRoster" (384 : Nat) ({ cls := "GuardRoster$Roster", name := "firstGateHeld", desc := "(III)I" } : Jvm.MethodName) ∈ gw := gw_t 766 (by decide +kernel) rfl
theorem lk770 : Cond.methodLink "GuardRoster" (202 : Nat) ({ cls := "GuardRoster$Roster", name := "addLeave", desc := "(III)I" } : Jvm.MethodName) ∈ gw := gw_t 770 (by decide +kernel) rfl
theorem lk774 : Cond.methodLink "GuardRoster$Roster" (98 : Nat) ({ cls := "GuardRoster$Roster", name := "leaveTotal", desc := "(I)I" } : Jvm.MethodName) ∈ gw := gw_t 774 (by decide +kernel) rfl
theorem lk778 : Cond.methodLink "GuardRoster$Roster" (93 : Nat) ({ cls := "java/lang/Integer", name := "bitCount", desc := "(I)I" } : Jvm.MethodName) ∈ gw := gw_t 778 (by decide +kernel) rfl
theorem lk814 : Cond.methodLink "GuardRoster" (217 : Nat) ({ cls := "GuardRoster", name := "problemOfFood", desc := "(I)I" } : Jvm.MethodName) ∈ gw := gw_t 814 (by decide +kernel) rfl
theorem lk818 : Cond.methodLink "GuardRoster" (220 : Nat) ({ cls := "GuardRoster$Roster", name := "store", desc := "(I)V" } : Jvm.MethodName) ∈ gw := gw_t 818 (by decide +kernel) rfl
theorem lk829 : Cond.methodLink "GuardRoster" (226 : Nat) ({ cls := "GuardRoster", name := "problemOfPassing", desc := "(I)I" } : Jvm.MethodName) ∈ gw := gw_t 829 (by decide +kernel) rfl
theorem lk833 : Cond.methodLink "GuardRoster" (229 : Nat) ({ cls := "GuardRoster$Roster", name := "letPass", desc := "(I)I" } : Jvm.MethodName) ∈ gw := gw_t 833 (by decide +kernel) rfl
theorem lk837 : Cond.methodLink "GuardRoster$Roster" (101 : Nat) ({ cls := "GuardRoster$Roster", name := "feedGuardsOf", desc := "(I)I" } : Jvm.MethodName) ∈ gw := gw_t 837 (by decide +kernel) rfl
theorem lk899 : Cond.methodLink "GuardRoster" (256 : Nat) ({ cls := "GuardRoster", name := "put", desc := "(C)V" } : Jvm.MethodName) ∈ gw := gw_t 899 (by decide +kernel) rfl
theorem lk903 : Cond.methodLink "GuardRoster" (260 : Nat) ({ cls := "GuardRoster", name := "putNumber", desc := "(I)V" } : Jvm.MethodName) ∈ gw := gw_t 903 (by decide +kernel) rfl
theorem lk1050 : Cond.methodLink "GuardRoster" (393 : Nat) ({ cls := "GuardRoster$CommandText", name := "kind", desc := "(I)I" } : Jvm.MethodName) ∈ gw := gw_t 1050 (by decide +kernel) rfl
theorem lk1054 : Cond.methodLink "GuardRoster" (396 : Nat) ({ cls := "GuardRoster$CommandText", name := "value", desc := "(II)I" } : Jvm.MethodName) ∈ gw := gw_t 1054 (by decide +kernel) rfl
theorem lk1058 : Cond.methodLink "GuardRoster" (399 : Nat) ({ cls := "GuardRoster", name := "problemOfCommand", desc := "(IIII)I" } : Jvm.MethodName) ∈ gw := gw_t 1058 (by decide +kernel) rfl
theorem lk1062 : Cond.methodLink "GuardRoster" (402 : Nat) ({ cls := "GuardRoster", name := "carryOut", desc := "(IIII)V" } : Jvm.MethodName) ∈ gw := gw_t 1062 (by decide +kernel) rfl
theorem lk1070 : Cond.methodLink "GuardRoster$History" (42 : Nat) ({ cls := "GuardRoster$Roster", name := "copyFrom", desc := "([I)V" } : Jvm.MethodName) ∈ gw := gw_t 1070 (by decide +kernel) rfl
theorem lk1104 : Cond.methodLink "GuardRoster$History" (45 : Nat) ({ cls := "GuardRoster$History", name := "backOut", desc := "(LGuardRoster$Roster;)V" } : Jvm.MethodName) ∈ gw := gw_t 1104 (by decide +kernel) rfl
theorem lk1124 : Cond.fieldLink "GuardRosterModel" (7 : Nat) "GuardRosterModel" "g" "[I" ∈ gw := gw_t 1124 (by decide +kernel) rfl
theorem lk1125 : Cond.fieldLink "GuardRosterModel" (13 : Nat) "GuardRosterModel" "kept" "[I" ∈ gw := gw_t 1125 (by decide +kernel) rfl
theorem lk1126 : Cond.fieldLink "GuardRosterModel" (16 : Nat) "GuardRosterModel" "saved" "[I" ∈ gw := gw_t 1126 (by decide +kernel) rfl
theorem lk1128 : Cond.fieldLink "GuardRosterModel" (246 : Nat) "GuardRosterModel" "isSaved" "Z" ∈ gw := gw_t 1128 (by decide +kernel) rfl
theorem lk1129 : Cond.fieldLink "GuardRosterModel" (49 : Nat) "GuardRosterModel" "changes" "I" ∈ gw := gw_t 1129 (by decide +kernel) rfl
theorem lk1130 : Cond.fieldLink "GuardRosterModel" (45 : Nat) "GuardRosterModel" "isWithin" "Z" ∈ gw := gw_t 1130 (by decide +kernel) rfl
theorem lk1131 : Cond.fieldLink "GuardRosterModel" (42 : Nat) "GuardRosterModel" "code" "I" ∈ gw := gw_t 1131 (by decide +kernel) rfl
theorem lk1132 : Cond.fieldLink "GuardRosterModel" (102 : Nat) "GuardRosterModel" "why" "I" ∈ gw := gw_t 1132 (by decide +kernel) rfl
theorem lk1133 : Cond.fieldLink "GuardRosterModel" (105 : Nat) "GuardRosterModel" "detail" "I" ∈ gw := gw_t 1133 (by decide +kernel) rfl
theorem lk1134 : Cond.fieldLink "GuardRosterModel" (22 : Nat) "GuardRosterModel" "input" "[I" ∈ gw := gw_t 1134 (by decide +kernel) rfl
theorem lk1135 : Cond.fieldLink "GuardRosterModel" (160 : Nat) "GuardRosterModel" "length" "I" ∈ gw := gw_t 1135 (by decide +kernel) rfl
theorem lk1136 : Cond.fieldLink "GuardRosterModel" (25 : Nat) "GuardRosterModel" "error" "I" ∈ gw := gw_t 1136 (by decide +kernel) rfl
theorem lk1137 : Cond.fieldLink "GuardRosterModel" (29 : Nat) "GuardRosterModel" "failed" "I" ∈ gw := gw_t 1137 (by decide +kernel) rfl
theorem lk1138 : Cond.fieldLink "GuardRosterModel" (32 : Nat) "GuardRosterModel" "signs" "[C" ∈ gw := gw_t 1138 (by decide +kernel) rfl
theorem lk1139 : Cond.fieldLink "GuardRosterModel" (153 : Nat) "GuardRosterModel" "signMany" "I" ∈ gw := gw_t 1139 (by decide +kernel) rfl
theorem lk1140 : Cond.fieldLink "GuardRosterModel" (88 : Nat) "GuardRosterModel" "told" "I" ∈ gw := gw_t 1140 (by decide +kernel) rfl
theorem lk1141 : Cond.fieldLink "GuardRosterModel" (36 : Nat) "GuardRosterModel" "best" "[I" ∈ gw := gw_t 1141 (by decide +kernel) rfl
theorem lk1142 : Cond.fieldLink "GuardRosterModel" (163 : Nat) "GuardRosterModel" "at" "I" ∈ gw := gw_t 1142 (by decide +kernel) rfl
theorem lk1143 : Cond.fieldLink "GuardRosterModel" (39 : Nat) "GuardRosterModel" "orders" "[I" ∈ gw := gw_t 1143 (by decide +kernel) rfl
theorem lk1196 : Cond.methodLink "GuardRosterModel" (56 : Nat) ({ cls := "GuardRosterModel", name := "in", desc := "(III)Z" } : Jvm.MethodName) ∈ gw := gw_t 1196 (by decide +kernel) rfl
theorem lk1199 : Cond.methodLink "GuardRosterModel" (71 : Nat) ({ cls := "GuardRosterModel", name := "fails", desc := "(I)Z" } : Jvm.MethodName) ∈ gw := gw_t 1199 (by decide +kernel) rfl
theorem lk1203 : Cond.methodLink "GuardRosterModel" (74 : Nat) ({ cls := "GuardRosterModel", name := "keeps", desc := "([I)V" } : Jvm.MethodName) ∈ gw := gw_t 1203 (by decide +kernel) rfl
theorem lk1207 : Cond.methodLink "GuardRosterModel" (52 : Nat) ({ cls := "GuardRosterModel", name := "copies", desc := "([II[II)V" } : Jvm.MethodName) ∈ gw := gw_t 1207 (by decide +kernel) rfl
theorem lk1226 : Cond.methodLink "GuardRosterModel" (60 : Nat) ({ cls := "GuardRosterModel", name := "isGate", desc := "(I)Z" } : Jvm.MethodName) ∈ gw := gw_t 1226 (by decide +kernel) rfl
theorem lk1234 : Cond.methodLink "GuardRosterModel" (81 : Nat) ({ cls := "GuardRosterModel", name := "isNone", desc := "(I)Z" } : Jvm.MethodName) ∈ gw := gw_t 1234 (by decide +kernel) rfl
theorem lk1238 : Cond.methodLink "GuardRosterModel" (78 : Nat) ({ cls := "GuardRosterModel", name := "isGuard", desc := "(I)Z" } : Jvm.MethodName) ∈ gw := gw_t 1238 (by decide +kernel) rfl
theorem lk1242 : Cond.methodLink "GuardRosterModel" (84 : Nat) ({ cls := "GuardRosterModel", name := "ranked", desc := "(I)I" } : Jvm.MethodName) ∈ gw := gw_t 1242 (by decide +kernel) rfl
theorem lk1254 : Cond.methodLink "GuardRosterModel" (108 : Nat) ({ cls := "GuardRosterModel", name := "arePlace", desc := "(II)Z" } : Jvm.MethodName) ∈ gw := gw_t 1254 (by decide +kernel) rfl
theorem lk1258 : Cond.methodLink "GuardRosterModel" (64 : Nat) ({ cls := "GuardRosterModel", name := "isSlot", desc := "(I)Z" } : Jvm.MethodName) ∈ gw := gw_t 1258 (by decide +kernel) rfl
theorem lk1261 : Cond.methodLink "GuardRosterModel" (111 : Nat) ({ cls := "GuardRosterModel", name := "isRefused", desc := "(IIII)Z" } : Jvm.MethodName) ∈ gw := gw_t 1261 (by decide +kernel) rfl
theorem lk1265 : Cond.methodLink "GuardRosterModel" (98 : Nat) ({ cls := "GuardRosterModel", name := "refuses", desc := "(III)I" } : Jvm.MethodName) ∈ gw := gw_t 1265 (by decide +kernel) rfl
theorem lk1269 : Cond.methodLink "GuardRosterModel" (67 : Nat) ({ cls := "GuardRosterModel", name := "who", desc := "(II)I" } : Jvm.MethodName) ∈ gw := gw_t 1269 (by decide +kernel) rfl
theorem lk1273 : Cond.methodLink "GuardRosterModel" (91 : Nat) ({ cls := "GuardRosterModel", name := "isOff", desc := "(II)Z" } : Jvm.MethodName) ∈ gw := gw_t 1273 (by decide +kernel) rfl
theorem lk1277 : Cond.methodLink "GuardRosterModel" (95 : Nat) ({ cls := "GuardRosterModel", name := "where", desc := "(II)I" } : Jvm.MethodName) ∈ gw := gw_t 1277 (by decide +kernel) rfl
theorem lk1281 : Cond.methodLink "GuardRosterModel" (115 : Nat) ({ cls := "GuardRosterModel", name := "puts", desc := "(III)V" } : Jvm.MethodName) ∈ gw := gw_t 1281 (by decide +kernel) rfl
theorem lk1285 : Cond.methodLink "GuardRosterModel" (119 : Nat) ({ cls := "GuardRosterModel", name := "duties", desc := "(I)I" } : Jvm.MethodName) ∈ gw := gw_t 1285 (by decide +kernel) rfl
theorem lk1305 : Cond.methodLink "GuardRosterModel" (125 : Nat) ({ cls := "GuardRosterModel", name := "nextGate", desc := "(II)I" } : Jvm.MethodName) ∈ gw := gw_t 1305 (by decide +kernel) rfl
theorem lk1309 : Cond.methodLink "GuardRosterModel" (128 : Nat) ({ cls := "GuardRosterModel", name := "chosen", desc := "(II)I" } : Jvm.MethodName) ∈ gw := gw_t 1309 (by decide +kernel) rfl
theorem lk1313 : Cond.methodLink "GuardRosterModel" (122 : Nat) ({ cls := "GuardRosterModel", name := "isAhead", desc := "(II)Z" } : Jvm.MethodName) ∈ gw := gw_t 1313 (by decide +kernel) rfl
theorem lk1333 : Cond.methodLink "GuardRosterModel" (131 : Nat) ({ cls := "GuardRosterModel", name := "allDuties", desc := "()I" } : Jvm.MethodName) ∈ gw := gw_t 1333 (by decide +kernel) rfl
theorem lk1341 : Cond.methodLink "GuardRosterModel" (135 : Nat) ({ cls := "GuardRosterModel", name := "open", desc := "(I)I" } : Jvm.MethodName) ∈ gw := gw_t 1341 (by decide +kernel) rfl
theorem lk1349 : Cond.methodLink "GuardRosterModel" (138 : Nat) ({ cls := "GuardRosterModel", name := "openFromNow", desc := "()I" } : Jvm.MethodName) ∈ gw := gw_t 1349 (by decide +kernel) rfl
theorem lk1361 : Cond.methodLink "GuardRosterModel" (141 : Nat) ({ cls := "GuardRosterModel", name := "most", desc := "(I)I" } : Jvm.MethodName) ∈ gw := gw_t 1361 (by decide +kernel) rfl
theorem lk1373 : Cond.methodLink "GuardRosterModel" (144 : Nat) ({ cls := "GuardRosterModel", name := "following", desc := "(I)I" } : Jvm.MethodName) ∈ gw := gw_t 1373 (by decide +kernel) rfl
theorem lk1389 : Cond.methodLink "GuardRosterModel" (147 : Nat) ({ cls := "GuardRosterModel", name := "bits", desc := "(I)I" } : Jvm.MethodName) ∈ gw := gw_t 1389 (by decide +kernel) rfl
theorem lk1412 : Cond.methodLink "GuardRosterModel" (150 : Nat) ({ cls := "GuardRosterModel", name := "goes", desc := "()I" } : Jvm.MethodName) ∈ gw := gw_t 1412 (by decide +kernel) rfl
theorem lk1448 : Cond.methodLink "GuardRosterModel" (156 : Nat) ({ cls := "GuardRosterModel", name := "writes", desc := "(I)V" } : Jvm.MethodName) ∈ gw := gw_t 1448 (by decide +kernel) rfl
theorem lk1480 : Cond.methodLink "GuardRosterModel" (180 : Nat) ({ cls := "GuardRosterModel", name := "skips", desc := "(I)Z" } : Jvm.MethodName) ∈ gw := gw_t 1480 (by decide +kernel) rfl
theorem lk1484 : Cond.methodLink "GuardRosterModel" (166 : Nat) ({ cls := "GuardRosterModel", name := "here", desc := "()I" } : Jvm.MethodName) ∈ gw := gw_t 1484 (by decide +kernel) rfl
theorem lk1518 : Cond.methodLink "GuardRosterModel" (216 : Nat) ({ cls := "GuardRosterModel", name := "addGate", desc := "(I)I" } : Jvm.MethodName) ∈ gw := gw_t 1518 (by decide +kernel) rfl
theorem lk1519 : Cond.methodLink "GuardRosterModel" (219 : Nat) ({ cls := "GuardRosterModel", name := "addGuard", desc := "(I)I" } : Jvm.MethodName) ∈ gw := gw_t 1519 (by decide +kernel) rfl
theorem lk1520 : Cond.methodLink "GuardRosterModel" (222 : Nat) ({ cls := "GuardRosterModel", name := "assign", desc := "(III)I" } : Jvm.MethodName) ∈ gw := gw_t 1520 (by decide +kernel) rfl
theorem lk1521 : Cond.methodLink "GuardRosterModel" (225 : Nat) ({ cls := "GuardRosterModel", name := "remove", desc := "(II)I" } : Jvm.MethodName) ∈ gw := gw_t 1521 (by decide +kernel) rfl
theorem lk1522 : Cond.methodLink "GuardRosterModel" (228 : Nat) ({ cls := "GuardRosterModel", name := "grantLeave", desc := "(III)I" } : Jvm.MethodName) ∈ gw := gw_t 1522 (by decide +kernel) rfl
theorem lk1523 : Cond.methodLink "GuardRosterModel" (231 : Nat) ({ cls := "GuardRosterModel", name := "fillSlot", desc := "(I)I" } : Jvm.MethodName) ∈ gw := gw_t 1523 (by decide +kernel) rfl
theorem lk1524 : Cond.methodLink "GuardRosterModel" (234 : Nat) ({ cls := "GuardRosterModel", name := "addRations", desc := "(I)I" } : Jvm.MethodName) ∈ gw := gw_t 1524 (by decide +kernel) rfl
theorem lk1525 : Cond.methodLink "GuardRosterModel" (237 : Nat) ({ cls := "GuardRosterModel", name := "passSlots", desc := "(I)I" } : Jvm.MethodName) ∈ gw := gw_t 1525 (by decide +kernel) rfl
theorem mf_X2_gates : MFV yX2_gates cX2_gates 1 (some .int) 0 := ⟨⟨gw_t 153 (by decide +kernel) rfl, gw_t 2 (by decide +kernel) rfl, ⟨by decide, by decide⟩, by decide⟩, gw_t 151 (by decide +kernel) rfl, gw_t 152 (by decide +kernel) rfl⟩
theorem mf_X2_guards : MFV yX2_guards cX2_guards 1 (some .int) 0 := ⟨⟨gw_t 161 (by decide +kernel) rfl, gw_t 2 (by decide +kernel) rfl, ⟨by decide, by decide⟩, by decide⟩, gw_t 159 (by decide +kernel) rfl, gw_t 160 (by decide +kernel) rfl⟩
theorem mf_X2_rationsLeft : MFV yX2_rationsLeft cX2_rationsLeft 1 (some .int) 0 := ⟨⟨gw_t 215 (by decide +kernel) rfl, gw_t 2 (by decide +kernel) rfl, ⟨by decide, by decide⟩, by decide⟩, gw_t 213 (by decide +kernel) rfl, gw_t 214 (by decide +kernel) rfl⟩
theorem mf_X2_now : MFV yX2_now cX2_now 1 (some .int) 0 := ⟨⟨gw_t 201 (by decide +kernel) rfl, gw_t 2 (by decide +kernel) rfl, ⟨by decide, by decide⟩, by decide⟩, gw_t 199 (by decide +kernel) rfl, gw_t 200 (by decide +kernel) rfl⟩
theorem mf_X2_isGate : MFV yX2_isGate cX2_isGate 2 (some .boolean) 1 := ⟨⟨gw_t 185 (by decide +kernel) rfl, gw_t 2 (by decide +kernel) rfl, ⟨by decide, by decide⟩, by decide⟩, gw_t 183 (by decide +kernel) rfl, gw_t 184 (by decide +kernel) rfl⟩
theorem mf_X2_isGuard : MFV yX2_isGuard cX2_isGuard 2 (some .boolean) 1 := ⟨⟨gw_t 332 (by decide +kernel) rfl, gw_t 2 (by decide +kernel) rfl, ⟨by decide, by decide⟩, by decide⟩, gw_t 330 (by decide +kernel) rfl, gw_t 331 (by decide +kernel) rfl⟩
theorem mf_X2_isSlot : MFV yX2_isSlot cX2_isSlot 2 (some .boolean) 1 := ⟨⟨gw_t 189 (by decide +kernel) rfl, gw_t 2 (by decide +kernel) rfl, ⟨by decide, by decide⟩, by decide⟩, gw_t 187 (by decide +kernel) rfl, gw_t 188 (by decide +kernel) rfl⟩
theorem mf_X2_hasPassed : MFV yX2_hasPassed cX2_hasPassed 2 (some .boolean) 1 := ⟨⟨gw_t 585 (by decide +kernel) rfl, gw_t 2 (by decide +kernel) rfl, ⟨by decide, by decide⟩, by decide⟩, gw_t 583 (by decide +kernel) rfl, gw_t 584 (by decide +kernel) rfl⟩
theorem mf_X2_rankNeededAt : MFV yX2_rankNeededAt cX2_rankNeededAt 2 (some .int) 1 := ⟨⟨gw_t 336 (by decide +kernel) rfl, gw_t 2 (by decide +kernel) rfl, ⟨by decide, by decide⟩, by decide⟩, gw_t 334 (by decide +kernel) rfl, gw_t 335 (by decide +kernel) rfl⟩
theorem mf_X2_rankOf : MFV yX2_rankOf cX2_rankOf 2 (some .int) 1 := ⟨⟨gw_t 328 (by decide +kernel) rfl, gw_t 2 (by decide +kernel) rfl, ⟨by decide, by decide⟩, by decide⟩, gw_t 326 (by decide +kernel) rfl, gw_t 327 (by decide +kernel) rfl⟩
theorem mf_X2_faintsOf : MFV yX2_faintsOf cX2_faintsOf 2 (some .int) 1 := ⟨⟨gw_t 569 (by decide +kernel) rfl, gw_t 2 (by decide +kernel) rfl, ⟨by decide, by decide⟩, by decide⟩, gw_t 567 (by decide +kernel) rfl, gw_t 568 (by decide +kernel) rfl⟩
theorem mf_X2_appendGate : MFV yX2_appendGate cX2_appendGate 3 (some .int) 1 := ⟨⟨gw_t 498 (by decide +kernel) rfl, gw_t 2 (by decide +kernel) rfl, ⟨by decide, by decide⟩, by decide⟩, gw_t 496 (by decide +kernel) rfl, gw_t 497 (by decide +kernel) rfl⟩
theorem mf_X2_appendGuard : MFV yX2_appendGuard cX2_appendGuard 3 (some .int) 1 := ⟨⟨gw_t 513 (by decide +kernel) rfl, gw_t 2 (by decide +kernel) rfl, ⟨by decide, by decide⟩, by decide⟩, gw_t 511 (by decide +kernel) rfl, gw_t 512 (by decide +kernel) rfl⟩
theorem mf_X2_guardOn : MFV yX2_guardOn cX2_guardOn 3 (some .int) 2 := ⟨⟨gw_t 181 (by decide +kernel) rfl, gw_t 2 (by decide +kernel) rfl, ⟨by decide, by decide⟩, by decide⟩, gw_t 179 (by decide +kernel) rfl, gw_t 180 (by decide +kernel) rfl⟩
theorem mf_X2_setDuty : MFV yX2_setDuty cX2_setDuty 4 (none) 3 := ⟨⟨gw_t 602 (by decide +kernel) rfl, gw_t 2 (by decide +kernel) rfl, ⟨by decide, by decide⟩, by decide⟩, gw_t 600 (by decide +kernel) rfl, gw_t 601 (by decide +kernel) rfl⟩
theorem mf_X2_gateHeld : MFV yX2_gateHeld cX2_gateHeld 4 (some .int) 2 := ⟨⟨gw_t 344 (by decide +kernel) rfl, gw_t 2 (by decide +kernel) rfl, ⟨by decide, by decide⟩, by decide⟩, gw_t 342 (by decide +kernel) rfl, gw_t 343 (by decide +kernel) rfl⟩
theorem mf_X2_firstGateHeld : MFV yX2_firstGateHeld cX2_firstGateHeld 6 (some .int) 3 := ⟨⟨gw_t 769 (by decide +kernel) rfl, gw_t 2 (by decide +kernel) rfl, ⟨by decide, by decide⟩, by decide⟩, gw_t 767 (by decide +kernel) rfl, gw_t 768 (by decide +kernel) rfl⟩
theorem mf_X2_dutyTotal : MFV yX2_dutyTotal cX2_dutyTotal 4 (some .int) 1 := ⟨⟨gw_t 606 (by decide +kernel) rfl, gw_t 2 (by decide +kernel) rfl, ⟨by decide, by decide⟩, by decide⟩, gw_t 604 (by decide +kernel) rfl, gw_t 605 (by decide +kernel) rfl⟩
theorem mf_X2_openGatesIn : MFV yX2_openGatesIn cX2_openGatesIn 4 (some .int) 1 := ⟨⟨gw_t 177 (by decide +kernel) rfl, gw_t 2 (by decide +kernel) rfl, ⟨by decide, by decide⟩, by decide⟩, gw_t 175 (by decide +kernel) rfl, gw_t 176 (by decide +kernel) rfl⟩
theorem mf_X2_openSlotsOf : MFV yX2_openSlotsOf cX2_openSlotsOf 4 (some .int) 1 := ⟨⟨gw_t 197 (by decide +kernel) rfl, gw_t 2 (by decide +kernel) rfl, ⟨by decide, by decide⟩, by decide⟩, gw_t 195 (by decide +kernel) rfl, gw_t 196 (by decide +kernel) rfl⟩
theorem mf_X2_allDuties : MFV yX2_allDuties cX2_allDuties 4 (some .int) 1 := ⟨⟨gw_t 169 (by decide +kernel) rfl, gw_t 2 (by decide +kernel) rfl, ⟨by decide, by decide⟩, by decide⟩, gw_t 167 (by decide +kernel) rfl, gw_t 168 (by decide +kernel) rfl⟩
theorem mf_X2_hasLeave : MFV yX2_hasLeave cX2_hasLeave 3 (some .boolean) 2 := ⟨⟨gw_t 340 (by decide +kernel) rfl, gw_t 2 (by decide +kernel) rfl, ⟨by decide, by decide⟩, by decide⟩, gw_t 338 (by decide +kernel) rfl, gw_t 339 (by decide +kernel) rfl⟩
theorem mf_X2_reasonAgainst : MFV yX2_reasonAgainst cX2_reasonAgainst 4 (some .int) 3 := ⟨⟨gw_t 324 (by decide +kernel) rfl, gw_t 2 (by decide +kernel) rfl, ⟨by decide, by decide⟩, by decide⟩, gw_t 322 (by decide +kernel) rfl, gw_t 323 (by decide +kernel) rfl⟩
theorem mf_X2_detailOf : MFV yX2_detailOf cX2_detailOf 5 (some .int) 4 := ⟨⟨gw_t 594 (by decide +kernel) rfl, gw_t 2 (by decide +kernel) rfl, ⟨by decide, by decide⟩, by decide⟩, gw_t 592 (by decide +kernel) rfl, gw_t 593 (by decide +kernel) rfl⟩
theorem mf_X2_nextSlotOf : MFV yX2_nextSlotOf cX2_nextSlotOf 3 (some .int) 1 := ⟨⟨gw_t 726 (by decide +kernel) rfl, gw_t 2 (by decide +kernel) rfl, ⟨by decide, by decide⟩, by decide⟩, gw_t 724 (by decide +kernel) rfl, gw_t 725 (by decide +kernel) rfl⟩
theorem mf_X2_longestGap : MFV yX2_longestGap cX2_longestGap 5 (some .int) 1 := ⟨⟨gw_t 738 (by decide +kernel) rfl, gw_t 2 (by decide +kernel) rfl, ⟨by decide, by decide⟩, by decide⟩, gw_t 736 (by decide +kernel) rfl, gw_t 737 (by decide +kernel) rfl⟩
theorem mf_X2_allRest : MFV yX2_allRest cX2_allRest 3 (some .boolean) 0 := ⟨⟨gw_t 374 (by decide +kernel) rfl, gw_t 2 (by decide +kernel) rfl, ⟨by decide, by decide⟩, by decide⟩, gw_t 372 (by decide +kernel) rfl, gw_t 373 (by decide +kernel) rfl⟩
theorem mf_X2_computeOrderKeys : MFV yX2_computeOrderKeys cX2_computeOrderKeys 2 (none) 0 := ⟨⟨gw_t 660 (by decide +kernel) rfl, gw_t 2 (by decide +kernel) rfl, ⟨by decide, by decide⟩, by decide⟩, gw_t 659 (by decide +kernel) rfl, gw_p (q := (yX2_computeOrderKeys, 2)) 12 (by decide +kernel)⟩
theorem mf_X2_guardsBefore : MFV yX2_guardsBefore cX2_guardsBefore 4 (some .int) 1 := ⟨⟨gw_t 754 (by decide +kernel) rfl, gw_t 2 (by decide +kernel) rfl, ⟨by decide, by decide⟩, by decide⟩, gw_t 753 (by decide +kernel) rfl, gw_p (q := (yX2_guardsBefore, 2)) 16 (by decide +kernel)⟩
theorem mf_X2_guardInOrder : MFV yX2_guardInOrder cX2_guardInOrder 3 (some .int) 1 := ⟨⟨gw_t 750 (by decide +kernel) rfl, gw_t 2 (by decide +kernel) rfl, ⟨by decide, by decide⟩, by decide⟩, gw_t 748 (by decide +kernel) rfl, gw_t 749 (by decide +kernel) rfl⟩
theorem mf_X2_mostNeedingGate : MFV yX2_mostNeedingGate cX2_mostNeedingGate 5 (some .int) 1 := ⟨⟨gw_t 665 (by decide +kernel) rfl, gw_t 2 (by decide +kernel) rfl, ⟨by decide, by decide⟩, by decide⟩, gw_t 664 (by decide +kernel) rfl, gw_p (q := (yX2_mostNeedingGate, 2)) 13 (by decide +kernel)⟩
theorem mf_X2_firstGuardFor : MFV yX2_firstGuardFor cX2_firstGuardFor 6 (some .int) 2 := ⟨⟨gw_t 669 (by decide +kernel) rfl, gw_t 2 (by decide +kernel) rfl, ⟨by decide, by decide⟩, by decide⟩, gw_t 668 (by decide +kernel) rfl, gw_p (q := (yX2_firstGuardFor, 2)) 14 (by decide +kernel)⟩
theorem mf_X2_fill : MFV yX2_fill cX2_fill 7 (some .int) 1 := ⟨⟨gw_t 656 (by decide +kernel) rfl, gw_t 2 (by decide +kernel) rfl, ⟨by decide, by decide⟩, by decide⟩, gw_t 654 (by decide +kernel) rfl, gw_t 655 (by decide +kernel) rfl⟩
theorem mf_X2_dropLeave : MFV yX2_dropLeave cX2_dropLeave 3 (none) 2 := ⟨⟨gw_t 791 (by decide +kernel) rfl, gw_t 2 (by decide +kernel) rfl, ⟨by decide, by decide⟩, by decide⟩, gw_t 789 (by decide +kernel) rfl, gw_t 790 (by decide +kernel) rfl⟩
theorem mf_X2_store : MFV yX2_store cX2_store 2 (none) 1 := ⟨⟨gw_t 821 (by decide +kernel) rfl, gw_t 2 (by decide +kernel) rfl, ⟨by decide, by decide⟩, by decide⟩, gw_t 819 (by decide +kernel) rfl, gw_t 820 (by decide +kernel) rfl⟩
theorem mf_X2_feedGuardsOf : MFV yX2_feedGuardsOf cX2_feedGuardsOf 5 (some .int) 1 := ⟨⟨gw_t 840 (by decide +kernel) rfl, gw_t 2 (by decide +kernel) rfl, ⟨by decide, by decide⟩, by decide⟩, gw_t 839 (by decide +kernel) rfl, gw_p (q := (yX2_feedGuardsOf, 2)) 20 (by decide +kernel)⟩
theorem mf_X2_letPass : MFV yX2_letPass cX2_letPass 4 (some .int) 1 := ⟨⟨gw_t 836 (by decide +kernel) rfl, gw_t 2 (by decide +kernel) rfl, ⟨by decide, by decide⟩, by decide⟩, gw_t 834 (by decide +kernel) rfl, gw_t 835 (by decide +kernel) rfl⟩
theorem mf_X2_copyTo : MFV yX2_copyTo cX2_copyTo 2 (none) 1 := ⟨⟨gw_t 391 (by decide +kernel) rfl, gw_t 2 (by decide +kernel) rfl, ⟨by decide, by decide⟩, by decide⟩, gw_t 389 (by decide +kernel) rfl, gw_t 390 (by decide +kernel) rfl⟩
theorem mf_X2_copyFrom : MFV yX2_copyFrom cX2_copyFrom 2 (none) 1 := ⟨⟨gw_t 1073 (by decide +kernel) rfl, gw_t 2 (by decide +kernel) rfl, ⟨by decide, by decide⟩, by decide⟩, gw_t 1071 (by decide +kernel) rfl, gw_t 1072 (by decide +kernel) rfl⟩
theorem mf_X1_size : MFV yX1_size cX1_size 1 (some .int) 0 := ⟨⟨gw_t 383 (by decide +kernel) rfl, gw_t 3 (by decide +kernel) rfl, ⟨by decide, by decide⟩, by decide⟩, gw_t 381 (by decide +kernel) rfl, gw_t 382 (by decide +kernel) rfl⟩
theorem mf_X1_begin : MFV yX1_begin cX1_begin 2 (none) 1 := ⟨⟨gw_t 486 (by decide +kernel) rfl, gw_t 3 (by decide +kernel) rfl, ⟨by decide, by decide⟩, by decide⟩, gw_t 484 (by decide +kernel) rfl, gw_t 485 (by decide +kernel) rfl⟩
theorem mf_X1_end : MFV yX1_end cX1_end 1 (none) 0 := ⟨⟨gw_t 491 (by decide +kernel) rfl, gw_t 3 (by decide +kernel) rfl, ⟨by decide, by decide⟩, by decide⟩, gw_t 489 (by decide +kernel) rfl, gw_t 490 (by decide +kernel) rfl⟩
theorem mf_X1_keep : MFV yX1_keep cX1_keep 2 (none) 1 := ⟨⟨gw_t 482 (by decide +kernel) rfl, gw_t 3 (by decide +kernel) rfl, ⟨by decide, by decide⟩, by decide⟩, gw_t 480 (by decide +kernel) rfl, gw_t 481 (by decide +kernel) rfl⟩
theorem mf_X1_backOut : MFV yX1_backOut cX1_backOut 2 (none) 1 := ⟨⟨gw_t 1069 (by decide +kernel) rfl, gw_t 3 (by decide +kernel) rfl, ⟨by decide, by decide⟩, by decide⟩, gw_t 1067 (by decide +kernel) rfl, gw_t 1068 (by decide +kernel) rfl⟩
theorem mf_X1_takeBack : MFV yX1_takeBack cX1_takeBack 2 (none) 1 := ⟨⟨gw_t 1103 (by decide +kernel) rfl, gw_t 3 (by decide +kernel) rfl, ⟨by decide, by decide⟩, by decide⟩, gw_t 1101 (by decide +kernel) rfl, gw_t 1102 (by decide +kernel) rfl⟩
theorem mf_X1_forget : MFV yX1_forget cX1_forget 1 (none) 0 := ⟨⟨gw_t 1117 (by decide +kernel) rfl, gw_t 3 (by decide +kernel) rfl, ⟨by decide, by decide⟩, by decide⟩, gw_t 1115 (by decide +kernel) rfl, gw_t 1116 (by decide +kernel) rfl⟩
theorem mf_J6_numberOfTrailingZeros_0f7a4 : MFS yJ6_numberOfTrailingZeros_0f7a4 cJ6_numberOfTrailingZeros_0f7a4 2 (some .int) 1 := ⟨⟨gw_t 362 (by decide +kernel) rfl, gw_t 19 (by decide +kernel) rfl, ⟨by decide, by decide⟩, by decide⟩, gw_t 361 (by decide +kernel) rfl⟩
theorem mf_J6_bitCount_0f7a4 : MFS yJ6_bitCount_0f7a4 cJ6_bitCount_0f7a4 1 (some .int) 1 := ⟨⟨gw_t 366 (by decide +kernel) rfl, gw_t 19 (by decide +kernel) rfl, ⟨by decide, by decide⟩, by decide⟩, gw_t 365 (by decide +kernel) rfl⟩
theorem mf_X3_guardsThatFit : MFS yX3_guardsThatFit cX3_guardsThatFit 5 (some .int) 3 := ⟨⟨gw_t 319 (by decide +kernel) rfl, gw_t 4 (by decide +kernel) rfl, ⟨by decide, by decide⟩, by decide⟩, gw_t 318 (by decide +kernel) rfl⟩
theorem mf_X3_prepare : MFV yX3_prepare cX3_prepare 4 (none) 2 := ⟨⟨gw_t 315 (by decide +kernel) rfl, gw_t 4 (by decide +kernel) rfl, ⟨by decide, by decide⟩, by decide⟩, gw_t 313 (by decide +kernel) rfl, gw_t 314 (by decide +kernel) rfl⟩
theorem mf_X3_finds : MFS yX3_finds cX3_finds 6 (some .boolean) 3 := ⟨⟨gw_t 351 (by decide +kernel) rfl, gw_t 4 (by decide +kernel) rfl, ⟨by decide, by decide⟩, by decide⟩, gw_t 350 (by decide +kernel) rfl⟩
theorem mf_X3_countByPaths : MFV yX3_countByPaths cX3_countByPaths 3 (some .int) 0 := ⟨⟨gw_t 348 (by decide +kernel) rfl, gw_t 4 (by decide +kernel) rfl, ⟨by decide, by decide⟩, by decide⟩, gw_t 346 (by decide +kernel) rfl, gw_t 347 (by decide +kernel) rfl⟩
theorem mf_X3_countBySets : MFV yX3_countBySets cX3_countBySets 5 (some .int) 0 := ⟨⟨gw_t 359 (by decide +kernel) rfl, gw_t 4 (by decide +kernel) rfl, ⟨by decide, by decide⟩, by decide⟩, gw_t 357 (by decide +kernel) rfl, gw_t 358 (by decide +kernel) rfl⟩
theorem mf_X0_isFull : MFV yX0_isFull cX0_isFull 1 (some .boolean) 0 := ⟨⟨gw_t 936 (by decide +kernel) rfl, gw_t 5 (by decide +kernel) rfl, ⟨by decide, by decide⟩, by decide⟩, gw_t 934 (by decide +kernel) rfl, gw_t 935 (by decide +kernel) rfl⟩
theorem mf_X0_append : MFV yX0_append cX0_append 2 (some .int) 1 := ⟨⟨gw_t 941 (by decide +kernel) rfl, gw_t 5 (by decide +kernel) rfl, ⟨by decide, by decide⟩, by decide⟩, gw_t 939 (by decide +kernel) rfl, gw_t 940 (by decide +kernel) rfl⟩
theorem mf_X0_empty : MFV yX0_empty cX0_empty 1 (none) 0 := ⟨⟨gw_t 1035 (by decide +kernel) rfl, gw_t 5 (by decide +kernel) rfl, ⟨by decide, by decide⟩, by decide⟩, gw_t 1033 (by decide +kernel) rfl, gw_t 1034 (by decide +kernel) rfl⟩
theorem mf_X0_commands : MFV yX0_commands cX0_commands 1 (some .int) 0 := ⟨⟨gw_t 1045 (by decide +kernel) rfl, gw_t 5 (by decide +kernel) rfl, ⟨by decide, by decide⟩, by decide⟩, gw_t 1043 (by decide +kernel) rfl, gw_t 1044 (by decide +kernel) rfl⟩
theorem mf_X0_firstWrong : MFV yX0_firstWrong cX0_firstWrong 1 (some .int) 0 := ⟨⟨gw_t 1039 (by decide +kernel) rfl, gw_t 5 (by decide +kernel) rfl, ⟨by decide, by decide⟩, by decide⟩, gw_t 1037 (by decide +kernel) rfl, gw_t 1038 (by decide +kernel) rfl⟩
theorem mf_X0_kind : MFV yX0_kind cX0_kind 2 (some .int) 1 := ⟨⟨gw_t 1053 (by decide +kernel) rfl, gw_t 5 (by decide +kernel) rfl, ⟨by decide, by decide⟩, by decide⟩, gw_t 1051 (by decide +kernel) rfl, gw_t 1052 (by decide +kernel) rfl⟩
theorem mf_X0_value : MFV yX0_value cX0_value 4 (some .int) 2 := ⟨⟨gw_t 1057 (by decide +kernel) rfl, gw_t 5 (by decide +kernel) rfl, ⟨by decide, by decide⟩, by decide⟩, gw_t 1055 (by decide +kernel) rfl, gw_t 1056 (by decide +kernel) rfl⟩
theorem mf_X0_isDigit : MFS yX0_isDigit cX0_isDigit 1 (some .boolean) 1 := ⟨⟨gw_t 1026 (by decide +kernel) rfl, gw_t 5 (by decide +kernel) rfl, ⟨by decide, by decide⟩, by decide⟩, gw_t 1025 (by decide +kernel) rfl⟩
theorem mf_X0_characterAt : MFV yX0_characterAt cX0_characterAt 2 (some .int) 1 := ⟨⟨gw_t 1023 (by decide +kernel) rfl, gw_t 5 (by decide +kernel) rfl, ⟨by decide, by decide⟩, by decide⟩, gw_t 1022 (by decide +kernel) rfl, gw_p (q := (yX0_characterAt, 6)) 27 (by decide +kernel)⟩
theorem mf_X0_keepValue : MFV yX0_keepValue cX0_keepValue 4 (none) 2 := ⟨⟨gw_t 1030 (by decide +kernel) rfl, gw_t 5 (by decide +kernel) rfl, ⟨by decide, by decide⟩, by decide⟩, gw_t 1029 (by decide +kernel) rfl, gw_p (q := (yX0_keepValue, 6)) 28 (by decide +kernel)⟩
theorem mf_X4_isRank : MFS yX4_isRank cX4_isRank 1 (some .boolean) 1 := ⟨⟨gw_t 410 (by decide +kernel) rfl, gw_t 1 (by decide +kernel) rfl, ⟨by decide, by decide⟩, by decide⟩, gw_t 409 (by decide +kernel) rfl⟩
theorem mf_X4_problemOfGate : MFV yX4_problemOfGate cX4_problemOfGate 2 (some .int) 1 := ⟨⟨gw_t 407 (by decide +kernel) rfl, gw_t 1 (by decide +kernel) rfl, ⟨by decide, by decide⟩, by decide⟩, gw_t 406 (by decide +kernel) rfl, gw_p (q := (yX4_problemOfGate, 12)) 2 (by decide +kernel)⟩
theorem mf_X4_problemOfGuard : MFV yX4_problemOfGuard cX4_problemOfGuard 2 (some .int) 1 := ⟨⟨gw_t 509 (by decide +kernel) rfl, gw_t 1 (by decide +kernel) rfl, ⟨by decide, by decide⟩, by decide⟩, gw_t 508 (by decide +kernel) rfl, gw_p (q := (yX4_problemOfGuard, 12)) 3 (by decide +kernel)⟩
theorem mf_X4_keepRefusal : MFV yX4_keepRefusal cX4_keepRefusal 3 (none) 2 := ⟨⟨gw_t 598 (by decide +kernel) rfl, gw_t 1 (by decide +kernel) rfl, ⟨by decide, by decide⟩, by decide⟩, gw_t 597 (by decide +kernel) rfl, gw_p (q := (yX4_keepRefusal, 12)) 7 (by decide +kernel)⟩
theorem mf_X4_isRefused : MFV yX4_isRefused cX4_isRefused 5 (some .boolean) 3 := ⟨⟨gw_t 589 (by decide +kernel) rfl, gw_t 1 (by decide +kernel) rfl, ⟨by decide, by decide⟩, by decide⟩, gw_t 588 (by decide +kernel) rfl, gw_p (q := (yX4_isRefused, 12)) 6 (by decide +kernel)⟩
theorem mf_X4_problemOfDuty : MFV yX4_problemOfDuty cX4_problemOfDuty 4 (some .int) 3 := ⟨⟨gw_t 581 (by decide +kernel) rfl, gw_t 1 (by decide +kernel) rfl, ⟨by decide, by decide⟩, by decide⟩, gw_t 580 (by decide +kernel) rfl, gw_p (q := (yX4_problemOfDuty, 12)) 5 (by decide +kernel)⟩
theorem mf_X4_problemOfFreeing : MFV yX4_problemOfFreeing cX4_problemOfFreeing 3 (some .int) 2 := ⟨⟨gw_t 625 (by decide +kernel) rfl, gw_t 1 (by decide +kernel) rfl, ⟨by decide, by decide⟩, by decide⟩, gw_t 624 (by decide +kernel) rfl, gw_p (q := (yX4_problemOfFreeing, 12)) 8 (by decide +kernel)⟩
theorem mf_X4_isExchangeRefused : MFV yX4_isExchangeRefused cX4_isExchangeRefused 8 (some .boolean) 4 := ⟨⟨gw_t 641 (by decide +kernel) rfl, gw_t 1 (by decide +kernel) rfl, ⟨by decide, by decide⟩, by decide⟩, gw_t 640 (by decide +kernel) rfl, gw_p (q := (yX4_isExchangeRefused, 12)) 10 (by decide +kernel)⟩
theorem mf_X4_problemOfExchange : MFV yX4_problemOfExchange cX4_problemOfExchange 5 (some .int) 4 := ⟨⟨gw_t 637 (by decide +kernel) rfl, gw_t 1 (by decide +kernel) rfl, ⟨by decide, by decide⟩, by decide⟩, gw_t 636 (by decide +kernel) rfl, gw_p (q := (yX4_problemOfExchange, 12)) 9 (by decide +kernel)⟩
theorem mf_X4_problemOfFilling : MFV yX4_problemOfFilling cX4_problemOfFilling 2 (some .int) 1 := ⟨⟨gw_t 652 (by decide +kernel) rfl, gw_t 1 (by decide +kernel) rfl, ⟨by decide, by decide⟩, by decide⟩, gw_t 651 (by decide +kernel) rfl, gw_p (q := (yX4_problemOfFilling, 12)) 11 (by decide +kernel)⟩
theorem mf_X2_leaveTotal : MFV yX2_leaveTotal cX2_leaveTotal 2 (some .int) 1 := ⟨⟨gw_t 777 (by decide +kernel) rfl, gw_t 2 (by decide +kernel) rfl, ⟨by decide, by decide⟩, by decide⟩, gw_t 775 (by decide +kernel) rfl, gw_t 776 (by decide +kernel) rfl⟩
theorem mf_X2_addLeave : MFV yX2_addLeave cX2_addLeave 6 (some .int) 3 := ⟨⟨gw_t 773 (by decide +kernel) rfl, gw_t 2 (by decide +kernel) rfl, ⟨by decide, by decide⟩, by decide⟩, gw_t 771 (by decide +kernel) rfl, gw_t 772 (by decide +kernel) rfl⟩
theorem mf_X4_problemOfLeave : MFV yX4_problemOfLeave cX4_problemOfLeave 5 (some .int) 3 := ⟨⟨gw_t 765 (by decide +kernel) rfl, gw_t 1 (by decide +kernel) rfl, ⟨by decide, by decide⟩, by decide⟩, gw_t 764 (by decide +kernel) rfl, gw_p (q := (yX4_problemOfLeave, 12)) 17 (by decide +kernel)⟩
theorem mf_X4_problemOfFood : MFV yX4_problemOfFood cX4_problemOfFood 2 (some .int) 1 := ⟨⟨gw_t 817 (by decide +kernel) rfl, gw_t 1 (by decide +kernel) rfl, ⟨by decide, by decide⟩, by decide⟩, gw_t 816 (by decide +kernel) rfl, gw_p (q := (yX4_problemOfFood, 12)) 18 (by decide +kernel)⟩
theorem mf_X4_problemOfPassing : MFV yX4_problemOfPassing cX4_problemOfPassing 2 (some .int) 1 := ⟨⟨gw_t 832 (by decide +kernel) rfl, gw_t 1 (by decide +kernel) rfl, ⟨by decide, by decide⟩, by decide⟩, gw_t 831 (by decide +kernel) rfl, gw_p (q := (yX4_problemOfPassing, 12)) 19 (by decide +kernel)⟩
theorem mf_X4_problemOfCommand : MFV yX4_problemOfCommand cX4_problemOfCommand 5 (some .int) 4 := ⟨⟨gw_t 1061 (by decide +kernel) rfl, gw_t 1 (by decide +kernel) rfl, ⟨by decide, by decide⟩, by decide⟩, gw_t 1060 (by decide +kernel) rfl, gw_p (q := (yX4_problemOfCommand, 12)) 30 (by decide +kernel)⟩
theorem mf_X4_carryOut : MFV yX4_carryOut cX4_carryOut 5 (none) 4 := ⟨⟨gw_t 1065 (by decide +kernel) rfl, gw_t 1 (by decide +kernel) rfl, ⟨by decide, by decide⟩, by decide⟩, gw_t 1064 (by decide +kernel) rfl, gw_p (q := (yX4_carryOut, 12)) 31 (by decide +kernel)⟩
theorem mf_X4_runs : MFV yX4_runs cX4_runs 6 (some .boolean) 1 := ⟨⟨gw_t 1049 (by decide +kernel) rfl, gw_t 1 (by decide +kernel) rfl, ⟨by decide, by decide⟩, by decide⟩, gw_t 1048 (by decide +kernel) rfl, gw_p (q := (yX4_runs, 12)) 29 (by decide +kernel)⟩
theorem mf_X4_put : MFV yX4_put cX4_put 2 (none) 1 := ⟨⟨gw_t 902 (by decide +kernel) rfl, gw_t 1 (by decide +kernel) rfl, ⟨by decide, by decide⟩, by decide⟩, gw_t 901 (by decide +kernel) rfl, gw_p (q := (yX4_put, 12)) 22 (by decide +kernel)⟩
theorem mf_X4_putNumber : MFV yX4_putNumber cX4_putNumber 2 (none) 1 := ⟨⟨gw_t 906 (by decide +kernel) rfl, gw_t 1 (by decide +kernel) rfl, ⟨by decide, by decide⟩, by decide⟩, gw_t 905 (by decide +kernel) rfl, gw_p (q := (yX4_putNumber, 12)) 23 (by decide +kernel)⟩
theorem mf_X4_putNumberOr : MFV yX4_putNumberOr cX4_putNumberOr 3 (none) 2 := ⟨⟨gw_t 910 (by decide +kernel) rfl, gw_t 1 (by decide +kernel) rfl, ⟨by decide, by decide⟩, by decide⟩, gw_t 909 (by decide +kernel) rfl, gw_p (q := (yX4_putNumberOr, 12)) 24 (by decide +kernel)⟩
theorem mf_X4_gateCount : MFV yX4_gateCount cX4_gateCount 1 (some .int) 0 := ⟨⟨gw_t 149 (by decide +kernel) rfl, gw_t 1 (by decide +kernel) rfl, ⟨by decide, by decide⟩, by decide⟩, gw_t 147 (by decide +kernel) rfl, gw_t 148 (by decide +kernel) rfl⟩
theorem mf_X4_guardCount : MFV yX4_guardCount cX4_guardCount 1 (some .int) 0 := ⟨⟨gw_t 157 (by decide +kernel) rfl, gw_t 1 (by decide +kernel) rfl, ⟨by decide, by decide⟩, by decide⟩, gw_t 155 (by decide +kernel) rfl, gw_t 156 (by decide +kernel) rfl⟩
theorem mf_X4_dutyCount : MFV yX4_dutyCount cX4_dutyCount 1 (some .int) 0 := ⟨⟨gw_t 165 (by decide +kernel) rfl, gw_t 1 (by decide +kernel) rfl, ⟨by decide, by decide⟩, by decide⟩, gw_t 163 (by decide +kernel) rfl, gw_t 164 (by decide +kernel) rfl⟩
theorem mf_X4_openPlaces : MFV yX4_openPlaces cX4_openPlaces 3 (some .int) 0 := ⟨⟨gw_t 193 (by decide +kernel) rfl, gw_t 1 (by decide +kernel) rfl, ⟨by decide, by decide⟩, by decide⟩, gw_t 191 (by decide +kernel) rfl, gw_t 192 (by decide +kernel) rfl⟩
theorem mf_X4_openPlacesBySlots : MFV yX4_openPlacesBySlots cX4_openPlacesBySlots 3 (some .int) 0 := ⟨⟨gw_t 205 (by decide +kernel) rfl, gw_t 1 (by decide +kernel) rfl, ⟨by decide, by decide⟩, by decide⟩, gw_t 203 (by decide +kernel) rfl, gw_t 204 (by decide +kernel) rfl⟩
theorem mf_X4_rations : MFV yX4_rations cX4_rations 1 (some .int) 0 := ⟨⟨gw_t 211 (by decide +kernel) rfl, gw_t 1 (by decide +kernel) rfl, ⟨by decide, by decide⟩, by decide⟩, gw_t 209 (by decide +kernel) rfl, gw_t 210 (by decide +kernel) rfl⟩
theorem mf_X4_currentSlot : MFV yX4_currentSlot cX4_currentSlot 1 (some .int) 0 := ⟨⟨gw_t 219 (by decide +kernel) rfl, gw_t 1 (by decide +kernel) rfl, ⟨by decide, by decide⟩, by decide⟩, gw_t 217 (by decide +kernel) rfl, gw_t 218 (by decide +kernel) rfl⟩
theorem mf_X4_missingRations : MFV yX4_missingRations cX4_missingRations 1 (some .int) 0 := ⟨⟨gw_t 223 (by decide +kernel) rfl, gw_t 1 (by decide +kernel) rfl, ⟨by decide, by decide⟩, by decide⟩, gw_t 221 (by decide +kernel) rfl, gw_t 222 (by decide +kernel) rfl⟩
theorem mf_X4_undoCount : MFV yX4_undoCount cX4_undoCount 1 (some .int) 0 := ⟨⟨gw_t 379 (by decide +kernel) rfl, gw_t 1 (by decide +kernel) rfl, ⟨by decide, by decide⟩, by decide⟩, gw_t 377 (by decide +kernel) rfl, gw_t 378 (by decide +kernel) rfl⟩
theorem mf_X4_save : MFV yX4_save cX4_save 1 (some .int) 0 := ⟨⟨gw_t 387 (by decide +kernel) rfl, gw_t 1 (by decide +kernel) rfl, ⟨by decide, by decide⟩, by decide⟩, gw_t 385 (by decide +kernel) rfl, gw_t 386 (by decide +kernel) rfl⟩
theorem mf_X5_thrown : MFV yX5_thrown cX5_thrown 1 (some .int) 0 := ⟨⟨gw_t 1191 (by decide +kernel) rfl, gw_t 6 (by decide +kernel) rfl, ⟨by decide, by decide⟩, by decide⟩, gw_t 1189 (by decide +kernel) rfl, gw_t 1190 (by decide +kernel) rfl⟩
theorem mf_X5_fails : MFV yX5_fails cX5_fails 2 (some .boolean) 1 := ⟨⟨gw_t 1202 (by decide +kernel) rfl, gw_t 6 (by decide +kernel) rfl, ⟨by decide, by decide⟩, by decide⟩, gw_t 1201 (by decide +kernel) rfl, gw_p (q := (yX5_fails, 21)) 32 (by decide +kernel)⟩
theorem mf_X5_in : MFS yX5_in cX5_in 3 (some .boolean) 3 := ⟨⟨gw_t 1198 (by decide +kernel) rfl, gw_t 6 (by decide +kernel) rfl, ⟨by decide, by decide⟩, by decide⟩, gw_t 1197 (by decide +kernel) rfl⟩
theorem mf_X5_copies : MFS yX5_copies cX5_copies 5 (none) 4 := ⟨⟨gw_t 1209 (by decide +kernel) rfl, gw_t 6 (by decide +kernel) rfl, ⟨by decide, by decide⟩, by decide⟩, gw_t 1208 (by decide +kernel) rfl⟩
theorem mf_X5_keeps : MFV yX5_keeps cX5_keeps 3 (none) 1 := ⟨⟨gw_t 1206 (by decide +kernel) rfl, gw_t 6 (by decide +kernel) rfl, ⟨by decide, by decide⟩, by decide⟩, gw_t 1205 (by decide +kernel) rfl, gw_p (q := (yX5_keeps, 21)) 33 (by decide +kernel)⟩
theorem mf_X5_isGate : MFV yX5_isGate cX5_isGate 2 (some .boolean) 1 := ⟨⟨gw_t 1229 (by decide +kernel) rfl, gw_t 6 (by decide +kernel) rfl, ⟨by decide, by decide⟩, by decide⟩, gw_t 1228 (by decide +kernel) rfl, gw_p (q := (yX5_isGate, 21)) 34 (by decide +kernel)⟩
theorem mf_X5_isGuard : MFV yX5_isGuard cX5_isGuard 2 (some .boolean) 1 := ⟨⟨gw_t 1241 (by decide +kernel) rfl, gw_t 6 (by decide +kernel) rfl, ⟨by decide, by decide⟩, by decide⟩, gw_t 1240 (by decide +kernel) rfl, gw_p (q := (yX5_isGuard, 21)) 36 (by decide +kernel)⟩
theorem mf_X5_isSlot : MFS yX5_isSlot cX5_isSlot 1 (some .boolean) 1 := ⟨⟨gw_t 1260 (by decide +kernel) rfl, gw_t 6 (by decide +kernel) rfl, ⟨by decide, by decide⟩, by decide⟩, gw_t 1259 (by decide +kernel) rfl⟩
theorem mf_X5_arePlace : MFV yX5_arePlace cX5_arePlace 3 (some .boolean) 2 := ⟨⟨gw_t 1257 (by decide +kernel) rfl, gw_t 6 (by decide +kernel) rfl, ⟨by decide, by decide⟩, by decide⟩, gw_t 1256 (by decide +kernel) rfl, gw_p (q := (yX5_arePlace, 21)) 38 (by decide +kernel)⟩
theorem mf_X5_ranked : MFV yX5_ranked cX5_ranked 2 (some .int) 1 := ⟨⟨gw_t 1245 (by decide +kernel) rfl, gw_t 6 (by decide +kernel) rfl, ⟨by decide, by decide⟩, by decide⟩, gw_t 1244 (by decide +kernel) rfl, gw_p (q := (yX5_ranked, 21)) 37 (by decide +kernel)⟩
theorem mf_X5_who : MFV yX5_who cX5_who 3 (some .int) 2 := ⟨⟨gw_t 1272 (by decide +kernel) rfl, gw_t 6 (by decide +kernel) rfl, ⟨by decide, by decide⟩, by decide⟩, gw_t 1271 (by decide +kernel) rfl, gw_p (q := (yX5_who, 21)) 41 (by decide +kernel)⟩
theorem mf_X5_puts : MFV yX5_puts cX5_puts 4 (none) 3 := ⟨⟨gw_t 1284 (by decide +kernel) rfl, gw_t 6 (by decide +kernel) rfl, ⟨by decide, by decide⟩, by decide⟩, gw_t 1283 (by decide +kernel) rfl, gw_p (q := (yX5_puts, 21)) 44 (by decide +kernel)⟩
theorem mf_X5_where : MFV yX5_where cX5_where 4 (some .int) 2 := ⟨⟨gw_t 1280 (by decide +kernel) rfl, gw_t 6 (by decide +kernel) rfl, ⟨by decide, by decide⟩, by decide⟩, gw_t 1279 (by decide +kernel) rfl, gw_p (q := (yX5_where, 21)) 43 (by decide +kernel)⟩
theorem mf_X5_isOff : MFV yX5_isOff cX5_isOff 3 (some .boolean) 2 := ⟨⟨gw_t 1276 (by decide +kernel) rfl, gw_t 6 (by decide +kernel) rfl, ⟨by decide, by decide⟩, by decide⟩, gw_t 1275 (by decide +kernel) rfl, gw_p (q := (yX5_isOff, 21)) 42 (by decide +kernel)⟩
theorem mf_X5_addGate : MFV yX5_addGate cX5_addGate 2 (some .int) 1 := ⟨⟨gw_t 1195 (by decide +kernel) rfl, gw_t 6 (by decide +kernel) rfl, ⟨by decide, by decide⟩, by decide⟩, gw_t 1193 (by decide +kernel) rfl, gw_t 1194 (by decide +kernel) rfl⟩
theorem mf_X5_addGuard : MFV yX5_addGuard cX5_addGuard 2 (some .int) 1 := ⟨⟨gw_t 1213 (by decide +kernel) rfl, gw_t 6 (by decide +kernel) rfl, ⟨by decide, by decide⟩, by decide⟩, gw_t 1211 (by decide +kernel) rfl, gw_t 1212 (by decide +kernel) rfl⟩
theorem mf_X5_gateCount : MFV yX5_gateCount cX5_gateCount 1 (some .int) 0 := ⟨⟨gw_t 1217 (by decide +kernel) rfl, gw_t 6 (by decide +kernel) rfl, ⟨by decide, by decide⟩, by decide⟩, gw_t 1215 (by decide +kernel) rfl, gw_t 1216 (by decide +kernel) rfl⟩
theorem mf_X5_guardCount : MFV yX5_guardCount cX5_guardCount 1 (some .int) 0 := ⟨⟨gw_t 1221 (by decide +kernel) rfl, gw_t 6 (by decide +kernel) rfl, ⟨by decide, by decide⟩, by decide⟩, gw_t 1219 (by decide +kernel) rfl, gw_t 1220 (by decide +kernel) rfl⟩
theorem mf_X5_neededRank : MFV yX5_neededRank cX5_neededRank 2 (some .int) 1 := ⟨⟨gw_t 1225 (by decide +kernel) rfl, gw_t 6 (by decide +kernel) rfl, ⟨by decide, by decide⟩, by decide⟩, gw_t 1223 (by decide +kernel) rfl, gw_t 1224 (by decide +kernel) rfl⟩
theorem mf_X5_isNone : MFV yX5_isNone cX5_isNone 2 (some .boolean) 1 := ⟨⟨gw_t 1237 (by decide +kernel) rfl, gw_t 6 (by decide +kernel) rfl, ⟨by decide, by decide⟩, by decide⟩, gw_t 1236 (by decide +kernel) rfl, gw_p (q := (yX5_isNone, 21)) 35 (by decide +kernel)⟩
theorem mf_X5_rank : MFV yX5_rank cX5_rank 2 (some .int) 1 := ⟨⟨gw_t 1233 (by decide +kernel) rfl, gw_t 6 (by decide +kernel) rfl, ⟨by decide, by decide⟩, by decide⟩, gw_t 1231 (by decide +kernel) rfl, gw_t 1232 (by decide +kernel) rfl⟩
theorem mf_X5_faints : MFV yX5_faints cX5_faints 2 (some .int) 1 := ⟨⟨gw_t 1249 (by decide +kernel) rfl, gw_t 6 (by decide +kernel) rfl, ⟨by decide, by decide⟩, by decide⟩, gw_t 1247 (by decide +kernel) rfl, gw_t 1248 (by decide +kernel) rfl⟩
theorem mf_X5_refuses : MFV yX5_refuses cX5_refuses 4 (some .int) 3 := ⟨⟨gw_t 1268 (by decide +kernel) rfl, gw_t 6 (by decide +kernel) rfl, ⟨by decide, by decide⟩, by decide⟩, gw_t 1267 (by decide +kernel) rfl, gw_p (q := (yX5_refuses, 21)) 40 (by decide +kernel)⟩
theorem mf_X5_isRefused : MFV yX5_isRefused cX5_isRefused 6 (some .boolean) 4 := ⟨⟨gw_t 1264 (by decide +kernel) rfl, gw_t 6 (by decide +kernel) rfl, ⟨by decide, by decide⟩, by decide⟩, gw_t 1263 (by decide +kernel) rfl, gw_p (q := (yX5_isRefused, 21)) 39 (by decide +kernel)⟩
theorem mf_X5_duties : MFV yX5_duties cX5_duties 4 (some .int) 1 := ⟨⟨gw_t 1288 (by decide +kernel) rfl, gw_t 6 (by decide +kernel) rfl, ⟨by decide, by decide⟩, by decide⟩, gw_t 1287 (by decide +kernel) rfl, gw_p (q := (yX5_duties, 21)) 45 (by decide +kernel)⟩
theorem mf_X5_assign : MFV yX5_assign cX5_assign 4 (some .int) 3 := ⟨⟨gw_t 1253 (by decide +kernel) rfl, gw_t 6 (by decide +kernel) rfl, ⟨by decide, by decide⟩, by decide⟩, gw_t 1251 (by decide +kernel) rfl, gw_t 1252 (by decide +kernel) rfl⟩
theorem mf_X5_canAssign : MFV yX5_canAssign cX5_canAssign 4 (some .boolean) 3 := ⟨⟨gw_t 1292 (by decide +kernel) rfl, gw_t 6 (by decide +kernel) rfl, ⟨by decide, by decide⟩, by decide⟩, gw_t 1290 (by decide +kernel) rfl, gw_t 1291 (by decide +kernel) rfl⟩
theorem mf_X5_remove : MFV yX5_remove cX5_remove 4 (some .int) 2 := ⟨⟨gw_t 1296 (by decide +kernel) rfl, gw_t 6 (by decide +kernel) rfl, ⟨by decide, by decide⟩, by decide⟩, gw_t 1294 (by decide +kernel) rfl, gw_t 1295 (by decide +kernel) rfl⟩
theorem mf_X5_exchange : MFV yX5_exchange cX5_exchange 8 (some .int) 4 := ⟨⟨gw_t 1300 (by decide +kernel) rfl, gw_t 6 (by decide +kernel) rfl, ⟨by decide, by decide⟩, by decide⟩, gw_t 1298 (by decide +kernel) rfl, gw_t 1299 (by decide +kernel) rfl⟩
theorem mf_X5_nextGate : MFV yX5_nextGate cX5_nextGate 5 (some .int) 2 := ⟨⟨gw_t 1308 (by decide +kernel) rfl, gw_t 6 (by decide +kernel) rfl, ⟨by decide, by decide⟩, by decide⟩, gw_t 1307 (by decide +kernel) rfl, gw_p (q := (yX5_nextGate, 21)) 46 (by decide +kernel)⟩
theorem mf_X5_isAhead : MFV yX5_isAhead cX5_isAhead 4 (some .boolean) 2 := ⟨⟨gw_t 1316 (by decide +kernel) rfl, gw_t 6 (by decide +kernel) rfl, ⟨by decide, by decide⟩, by decide⟩, gw_t 1315 (by decide +kernel) rfl, gw_p (q := (yX5_isAhead, 21)) 48 (by decide +kernel)⟩
theorem mf_X5_chosen : MFV yX5_chosen cX5_chosen 5 (some .int) 2 := ⟨⟨gw_t 1312 (by decide +kernel) rfl, gw_t 6 (by decide +kernel) rfl, ⟨by decide, by decide⟩, by decide⟩, gw_t 1311 (by decide +kernel) rfl, gw_p (q := (yX5_chosen, 21)) 47 (by decide +kernel)⟩
theorem mf_X5_fillSlot : MFV yX5_fillSlot cX5_fillSlot 6 (some .int) 1 := ⟨⟨gw_t 1304 (by decide +kernel) rfl, gw_t 6 (by decide +kernel) rfl, ⟨by decide, by decide⟩, by decide⟩, gw_t 1302 (by decide +kernel) rfl, gw_t 1303 (by decide +kernel) rfl⟩
theorem mf_X5_guardAt : MFV yX5_guardAt cX5_guardAt 3 (some .int) 2 := ⟨⟨gw_t 1320 (by decide +kernel) rfl, gw_t 6 (by decide +kernel) rfl, ⟨by decide, by decide⟩, by decide⟩, gw_t 1318 (by decide +kernel) rfl, gw_t 1319 (by decide +kernel) rfl⟩
theorem mf_X5_gateOf : MFV yX5_gateOf cX5_gateOf 3 (some .int) 2 := ⟨⟨gw_t 1324 (by decide +kernel) rfl, gw_t 6 (by decide +kernel) rfl, ⟨by decide, by decide⟩, by decide⟩, gw_t 1322 (by decide +kernel) rfl, gw_t 1323 (by decide +kernel) rfl⟩
theorem mf_X5_dutiesOf : MFV yX5_dutiesOf cX5_dutiesOf 2 (some .int) 1 := ⟨⟨gw_t 1328 (by decide +kernel) rfl, gw_t 6 (by decide +kernel) rfl, ⟨by decide, by decide⟩, by decide⟩, gw_t 1326 (by decide +kernel) rfl, gw_t 1327 (by decide +kernel) rfl⟩
theorem mf_X5_allDuties : MFV yX5_allDuties cX5_allDuties 3 (some .int) 0 := ⟨⟨gw_t 1336 (by decide +kernel) rfl, gw_t 6 (by decide +kernel) rfl, ⟨by decide, by decide⟩, by decide⟩, gw_t 1335 (by decide +kernel) rfl, gw_p (q := (yX5_allDuties, 21)) 49 (by decide +kernel)⟩
theorem mf_X5_dutyCount : MFV yX5_dutyCount cX5_dutyCount 1 (some .int) 0 := ⟨⟨gw_t 1332 (by decide +kernel) rfl, gw_t 6 (by decide +kernel) rfl, ⟨by decide, by decide⟩, by decide⟩, gw_t 1330 (by decide +kernel) rfl, gw_t 1331 (by decide +kernel) rfl⟩
theorem mf_X5_open : MFV yX5_open cX5_open 4 (some .int) 1 := ⟨⟨gw_t 1344 (by decide +kernel) rfl, gw_t 6 (by decide +kernel) rfl, ⟨by decide, by decide⟩, by decide⟩, gw_t 1343 (by decide +kernel) rfl, gw_p (q := (yX5_open, 21)) 50 (by decide +kernel)⟩
theorem mf_X5_openGates : MFV yX5_openGates cX5_openGates 2 (some .int) 1 := ⟨⟨gw_t 1340 (by decide +kernel) rfl, gw_t 6 (by decide +kernel) rfl, ⟨by decide, by decide⟩, by decide⟩, gw_t 1338 (by decide +kernel) rfl, gw_t 1339 (by decide +kernel) rfl⟩
theorem mf_X5_openFromNow : MFV yX5_openFromNow cX5_openFromNow 3 (some .int) 0 := ⟨⟨gw_t 1352 (by decide +kernel) rfl, gw_t 6 (by decide +kernel) rfl, ⟨by decide, by decide⟩, by decide⟩, gw_t 1351 (by decide +kernel) rfl, gw_p (q := (yX5_openFromNow, 21)) 51 (by decide +kernel)⟩
theorem mf_X5_openPlaces : MFV yX5_openPlaces cX5_openPlaces 1 (some .int) 0 := ⟨⟨gw_t 1348 (by decide +kernel) rfl, gw_t 6 (by decide +kernel) rfl, ⟨by decide, by decide⟩, by decide⟩, gw_t 1346 (by decide +kernel) rfl, gw_t 1347 (by decide +kernel) rfl⟩
theorem mf_X5_openPlacesBySlots : MFV yX5_openPlacesBySlots cX5_openPlacesBySlots 1 (some .int) 0 := ⟨⟨gw_t 1356 (by decide +kernel) rfl, gw_t 6 (by decide +kernel) rfl, ⟨by decide, by decide⟩, by decide⟩, gw_t 1354 (by decide +kernel) rfl, gw_t 1355 (by decide +kernel) rfl⟩
theorem mf_X5_most : MFV yX5_most cX5_most 6 (some .int) 1 := ⟨⟨gw_t 1364 (by decide +kernel) rfl, gw_t 6 (by decide +kernel) rfl, ⟨by decide, by decide⟩, by decide⟩, gw_t 1363 (by decide +kernel) rfl, gw_p (q := (yX5_most, 21)) 52 (by decide +kernel)⟩
theorem mf_X5_mostDuties : MFV yX5_mostDuties cX5_mostDuties 2 (some .int) 1 := ⟨⟨gw_t 1360 (by decide +kernel) rfl, gw_t 6 (by decide +kernel) rfl, ⟨by decide, by decide⟩, by decide⟩, gw_t 1358 (by decide +kernel) rfl, gw_t 1359 (by decide +kernel) rfl⟩
theorem mf_X5_mostDutiesBySets : MFV yX5_mostDutiesBySets cX5_mostDutiesBySets 2 (some .int) 1 := ⟨⟨gw_t 1368 (by decide +kernel) rfl, gw_t 6 (by decide +kernel) rfl, ⟨by decide, by decide⟩, by decide⟩, gw_t 1366 (by decide +kernel) rfl, gw_t 1367 (by decide +kernel) rfl⟩
theorem mf_X5_following : MFV yX5_following cX5_following 3 (some .int) 1 := ⟨⟨gw_t 1376 (by decide +kernel) rfl, gw_t 6 (by decide +kernel) rfl, ⟨by decide, by decide⟩, by decide⟩, gw_t 1375 (by decide +kernel) rfl, gw_p (q := (yX5_following, 21)) 53 (by decide +kernel)⟩
theorem mf_X5_nextDuty : MFV yX5_nextDuty cX5_nextDuty 2 (some .int) 1 := ⟨⟨gw_t 1372 (by decide +kernel) rfl, gw_t 6 (by decide +kernel) rfl, ⟨by decide, by decide⟩, by decide⟩, gw_t 1370 (by decide +kernel) rfl, gw_t 1371 (by decide +kernel) rfl⟩
theorem mf_X5_longestRest : MFV yX5_longestRest cX5_longestRest 5 (some .int) 1 := ⟨⟨gw_t 1380 (by decide +kernel) rfl, gw_t 6 (by decide +kernel) rfl, ⟨by decide, by decide⟩, by decide⟩, gw_t 1378 (by decide +kernel) rfl, gw_t 1379 (by decide +kernel) rfl⟩
theorem mf_X5_guardByDuties : MFV yX5_guardByDuties cX5_guardByDuties 5 (some .int) 1 := ⟨⟨gw_t 1384 (by decide +kernel) rfl, gw_t 6 (by decide +kernel) rfl, ⟨by decide, by decide⟩, by decide⟩, gw_t 1382 (by decide +kernel) rfl, gw_t 1383 (by decide +kernel) rfl⟩
theorem mf_X5_bits : MFS yX5_bits cX5_bits 3 (some .int) 1 := ⟨⟨gw_t 1391 (by decide +kernel) rfl, gw_t 6 (by decide +kernel) rfl, ⟨by decide, by decide⟩, by decide⟩, gw_t 1390 (by decide +kernel) rfl⟩
theorem mf_X5_grantLeave : MFV yX5_grantLeave cX5_grantLeave 6 (some .int) 3 := ⟨⟨gw_t 1388 (by decide +kernel) rfl, gw_t 6 (by decide +kernel) rfl, ⟨by decide, by decide⟩, by decide⟩, gw_t 1386 (by decide +kernel) rfl, gw_t 1387 (by decide +kernel) rfl⟩
theorem mf_X5_endLeave : MFV yX5_endLeave cX5_endLeave 3 (some .int) 2 := ⟨⟨gw_t 1395 (by decide +kernel) rfl, gw_t 6 (by decide +kernel) rfl, ⟨by decide, by decide⟩, by decide⟩, gw_t 1393 (by decide +kernel) rfl, gw_t 1394 (by decide +kernel) rfl⟩
theorem mf_X5_isOnLeave : MFV yX5_isOnLeave cX5_isOnLeave 3 (some .boolean) 2 := ⟨⟨gw_t 1399 (by decide +kernel) rfl, gw_t 6 (by decide +kernel) rfl, ⟨by decide, by decide⟩, by decide⟩, gw_t 1397 (by decide +kernel) rfl, gw_t 1398 (by decide +kernel) rfl⟩
theorem mf_X5_leaveSlots : MFV yX5_leaveSlots cX5_leaveSlots 2 (some .int) 1 := ⟨⟨gw_t 1403 (by decide +kernel) rfl, gw_t 6 (by decide +kernel) rfl, ⟨by decide, by decide⟩, by decide⟩, gw_t 1401 (by decide +kernel) rfl, gw_t 1402 (by decide +kernel) rfl⟩
theorem mf_X5_addRations : MFV yX5_addRations cX5_addRations 2 (some .int) 1 := ⟨⟨gw_t 1407 (by decide +kernel) rfl, gw_t 6 (by decide +kernel) rfl, ⟨by decide, by decide⟩, by decide⟩, gw_t 1405 (by decide +kernel) rfl, gw_t 1406 (by decide +kernel) rfl⟩
theorem mf_X5_goes : MFV yX5_goes cX5_goes 4 (some .int) 0 := ⟨⟨gw_t 1415 (by decide +kernel) rfl, gw_t 6 (by decide +kernel) rfl, ⟨by decide, by decide⟩, by decide⟩, gw_t 1414 (by decide +kernel) rfl, gw_p (q := (yX5_goes, 21)) 54 (by decide +kernel)⟩
theorem mf_X5_passSlots : MFV yX5_passSlots cX5_passSlots 4 (some .int) 1 := ⟨⟨gw_t 1411 (by decide +kernel) rfl, gw_t 6 (by decide +kernel) rfl, ⟨by decide, by decide⟩, by decide⟩, gw_t 1409 (by decide +kernel) rfl, gw_t 1410 (by decide +kernel) rfl⟩
theorem mf_X5_rations : MFV yX5_rations cX5_rations 1 (some .int) 0 := ⟨⟨gw_t 1419 (by decide +kernel) rfl, gw_t 6 (by decide +kernel) rfl, ⟨by decide, by decide⟩, by decide⟩, gw_t 1417 (by decide +kernel) rfl, gw_t 1418 (by decide +kernel) rfl⟩
theorem mf_X5_currentSlot : MFV yX5_currentSlot cX5_currentSlot 1 (some .int) 0 := ⟨⟨gw_t 1423 (by decide +kernel) rfl, gw_t 6 (by decide +kernel) rfl, ⟨by decide, by decide⟩, by decide⟩, gw_t 1421 (by decide +kernel) rfl, gw_t 1422 (by decide +kernel) rfl⟩
theorem mf_X5_missingRations : MFV yX5_missingRations cX5_missingRations 3 (some .int) 0 := ⟨⟨gw_t 1427 (by decide +kernel) rfl, gw_t 6 (by decide +kernel) rfl, ⟨by decide, by decide⟩, by decide⟩, gw_t 1425 (by decide +kernel) rfl, gw_t 1426 (by decide +kernel) rfl⟩
theorem mf_X5_refusalReason : MFV yX5_refusalReason cX5_refusalReason 1 (some .int) 0 := ⟨⟨gw_t 1431 (by decide +kernel) rfl, gw_t 6 (by decide +kernel) rfl, ⟨by decide, by decide⟩, by decide⟩, gw_t 1429 (by decide +kernel) rfl, gw_t 1430 (by decide +kernel) rfl⟩
theorem mf_X5_refusalDetail : MFV yX5_refusalDetail cX5_refusalDetail 1 (some .int) 0 := ⟨⟨gw_t 1435 (by decide +kernel) rfl, gw_t 6 (by decide +kernel) rfl, ⟨by decide, by decide⟩, by decide⟩, gw_t 1433 (by decide +kernel) rfl, gw_t 1434 (by decide +kernel) rfl⟩
theorem mf_X5_writes : MFV yX5_writes cX5_writes 2 (none) 1 := ⟨⟨gw_t 1451 (by decide +kernel) rfl, gw_t 6 (by decide +kernel) rfl, ⟨by decide, by decide⟩, by decide⟩, gw_t 1450 (by decide +kernel) rfl, gw_p (q := (yX5_writes, 21)) 55 (by decide +kernel)⟩
theorem mf_X5_writeSlot : MFV yX5_writeSlot cX5_writeSlot 3 (some .int) 1 := ⟨⟨gw_t 1447 (by decide +kernel) rfl, gw_t 6 (by decide +kernel) rfl, ⟨by decide, by decide⟩, by decide⟩, gw_t 1445 (by decide +kernel) rfl, gw_t 1446 (by decide +kernel) rfl⟩
theorem mf_X5_writeGuard : MFV yX5_writeGuard cX5_writeGuard 3 (some .int) 1 := ⟨⟨gw_t 1455 (by decide +kernel) rfl, gw_t 6 (by decide +kernel) rfl, ⟨by decide, by decide⟩, by decide⟩, gw_t 1453 (by decide +kernel) rfl, gw_t 1454 (by decide +kernel) rfl⟩
theorem mf_X5_outputCharacter : MFV yX5_outputCharacter cX5_outputCharacter 2 (some .char) 1 := ⟨⟨gw_t 1459 (by decide +kernel) rfl, gw_t 6 (by decide +kernel) rfl, ⟨by decide, by decide⟩, by decide⟩, gw_t 1457 (by decide +kernel) rfl, gw_t 1458 (by decide +kernel) rfl⟩
theorem mf_X5_isConsistent : MFV yX5_isConsistent cX5_isConsistent 3 (some .boolean) 0 := ⟨⟨gw_t 1463 (by decide +kernel) rfl, gw_t 6 (by decide +kernel) rfl, ⟨by decide, by decide⟩, by decide⟩, gw_t 1461 (by decide +kernel) rfl, gw_t 1462 (by decide +kernel) rfl⟩
theorem mf_X5_feed : MFV yX5_feed cX5_feed 2 (some .int) 1 := ⟨⟨gw_t 1467 (by decide +kernel) rfl, gw_t 6 (by decide +kernel) rfl, ⟨by decide, by decide⟩, by decide⟩, gw_t 1465 (by decide +kernel) rfl, gw_t 1466 (by decide +kernel) rfl⟩
theorem mf_X5_here : MFV yX5_here cX5_here 1 (some .int) 0 := ⟨⟨gw_t 1487 (by decide +kernel) rfl, gw_t 6 (by decide +kernel) rfl, ⟨by decide, by decide⟩, by decide⟩, gw_t 1486 (by decide +kernel) rfl, gw_p (q := (yX5_here, 21)) 59 (by decide +kernel)⟩
theorem mf_X5_skips : MFV yX5_skips cX5_skips 2 (some .boolean) 1 := ⟨⟨gw_t 1483 (by decide +kernel) rfl, gw_t 6 (by decide +kernel) rfl, ⟨by decide, by decide⟩, by decide⟩, gw_t 1482 (by decide +kernel) rfl, gw_p (q := (yX5_skips, 21)) 58 (by decide +kernel)⟩
theorem mf_X5_figures : MFV yX5_figures cX5_figures 5 (some .boolean) 3 := ⟨⟨gw_t 1502 (by decide +kernel) rfl, gw_t 6 (by decide +kernel) rfl, ⟨by decide, by decide⟩, by decide⟩, gw_t 1501 (by decide +kernel) rfl, gw_p (q := (yX5_figures, 21)) 62 (by decide +kernel)⟩
theorem mf_X5_carries : MFV yX5_carries cX5_carries 5 (some .int) 1 := ⟨⟨gw_t 1517 (by decide +kernel) rfl, gw_t 6 (by decide +kernel) rfl, ⟨by decide, by decide⟩, by decide⟩, gw_t 1516 (by decide +kernel) rfl, gw_p (q := (yX5_carries, 21)) 64 (by decide +kernel)⟩
theorem mf_X5_errorPosition : MFV yX5_errorPosition cX5_errorPosition 1 (some .int) 0 := ⟨⟨gw_t 1529 (by decide +kernel) rfl, gw_t 6 (by decide +kernel) rfl, ⟨by decide, by decide⟩, by decide⟩, gw_t 1527 (by decide +kernel) rfl, gw_t 1528 (by decide +kernel) rfl⟩
theorem mf_X5_failedCommand : MFV yX5_failedCommand cX5_failedCommand 1 (some .int) 0 := ⟨⟨gw_t 1533 (by decide +kernel) rfl, gw_t 6 (by decide +kernel) rfl, ⟨by decide, by decide⟩, by decide⟩, gw_t 1531 (by decide +kernel) rfl, gw_t 1532 (by decide +kernel) rfl⟩
theorem mf_X5_undo : MFV yX5_undo cX5_undo 1 (some .int) 0 := ⟨⟨gw_t 1537 (by decide +kernel) rfl, gw_t 6 (by decide +kernel) rfl, ⟨by decide, by decide⟩, by decide⟩, gw_t 1535 (by decide +kernel) rfl, gw_t 1536 (by decide +kernel) rfl⟩
theorem mf_X5_undoCount : MFV yX5_undoCount cX5_undoCount 1 (some .int) 0 := ⟨⟨gw_t 1541 (by decide +kernel) rfl, gw_t 6 (by decide +kernel) rfl, ⟨by decide, by decide⟩, by decide⟩, gw_t 1539 (by decide +kernel) rfl, gw_t 1540 (by decide +kernel) rfl⟩
theorem mf_X5_save : MFV yX5_save cX5_save 1 (some .int) 0 := ⟨⟨gw_t 1545 (by decide +kernel) rfl, gw_t 6 (by decide +kernel) rfl, ⟨by decide, by decide⟩, by decide⟩, gw_t 1543 (by decide +kernel) rfl, gw_t 1544 (by decide +kernel) rfl⟩
theorem mf_X5_restore : MFV yX5_restore cX5_restore 1 (some .int) 0 := ⟨⟨gw_t 1549 (by decide +kernel) rfl, gw_t 6 (by decide +kernel) rfl, ⟨by decide, by decide⟩, by decide⟩, gw_t 1547 (by decide +kernel) rfl, gw_t 1548 (by decide +kernel) rfl⟩
