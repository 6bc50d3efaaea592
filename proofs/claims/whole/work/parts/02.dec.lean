abbrev cX0_init : ByteArray := prog_2_method_1_code
def yX0_init : MethodName := ⟨"GuardRoster$CommandText", "<init>", "()V"⟩
abbrev cX0_isFull : ByteArray := prog_2_method_2_code
def yX0_isFull : MethodName := ⟨"GuardRoster$CommandText", "isFull", "()Z"⟩
abbrev cX0_append : ByteArray := prog_2_method_3_code
def yX0_append : MethodName := ⟨"GuardRoster$CommandText", "append", "(C)I"⟩
abbrev cX0_empty : ByteArray := prog_2_method_4_code
def yX0_empty : MethodName := ⟨"GuardRoster$CommandText", "empty", "()V"⟩
abbrev cX0_commands : ByteArray := prog_2_method_5_code
def yX0_commands : MethodName := ⟨"GuardRoster$CommandText", "commands", "()I"⟩
abbrev cX0_firstWrong : ByteArray := prog_2_method_6_code
def yX0_firstWrong : MethodName := ⟨"GuardRoster$CommandText", "firstWrong", "()I"⟩
abbrev cX0_kind : ByteArray := prog_2_method_7_code
def yX0_kind : MethodName := ⟨"GuardRoster$CommandText", "kind", "(I)I"⟩
abbrev cX0_value : ByteArray := prog_2_method_8_code
def yX0_value : MethodName := ⟨"GuardRoster$CommandText", "value", "(II)I"⟩
abbrev cX0_parse : ByteArray := prog_2_method_9_code
def yX0_parse : MethodName := ⟨"GuardRoster$CommandText", "parse", "()Z"⟩
abbrev cX0_readCommand : ByteArray := prog_2_method_10_code
def yX0_readCommand : MethodName := ⟨"GuardRoster$CommandText", "readCommand", "(I)I"⟩
abbrev cX0_shapeOf : ByteArray := prog_2_method_11_code
def yX0_shapeOf : MethodName := ⟨"GuardRoster$CommandText", "shapeOf", "(I)Ljava/lang/String;"⟩
abbrev cX0_readShape : ByteArray := prog_2_method_12_code
def yX0_readShape : MethodName := ⟨"GuardRoster$CommandText", "readShape", "(Ljava/lang/String;I)I"⟩
abbrev cX0_keepValue : ByteArray := prog_2_method_13_code
def yX0_keepValue : MethodName := ⟨"GuardRoster$CommandText", "keepValue", "(II)V"⟩
abbrev cX0_characterAt : ByteArray := prog_2_method_14_code
def yX0_characterAt : MethodName := ⟨"GuardRoster$CommandText", "characterAt", "(I)I"⟩
abbrev cX0_isDigit : ByteArray := prog_2_method_15_code
def yX0_isDigit : MethodName := ⟨"GuardRoster$CommandText", "isDigit", "(I)Z"⟩
abbrev cX1_init : ByteArray := prog_3_method_1_code
def yX1_init : MethodName := ⟨"GuardRoster$History", "<init>", "()V"⟩
abbrev cX1_size : ByteArray := prog_3_method_2_code
def yX1_size : MethodName := ⟨"GuardRoster$History", "size", "()I"⟩
abbrev cX1_keep : ByteArray := prog_3_method_3_code
def yX1_keep : MethodName := ⟨"GuardRoster$History", "keep", "(LGuardRoster$Roster;)V"⟩
abbrev cX1_begin : ByteArray := prog_3_method_4_code
def yX1_begin : MethodName := ⟨"GuardRoster$History", "begin", "(LGuardRoster$Roster;)V"⟩
abbrev cX1_end : ByteArray := prog_3_method_5_code
def yX1_end : MethodName := ⟨"GuardRoster$History", "end", "()V"⟩
abbrev cX1_backOut : ByteArray := prog_3_method_6_code
def yX1_backOut : MethodName := ⟨"GuardRoster$History", "backOut", "(LGuardRoster$Roster;)V"⟩
abbrev cX1_takeBack : ByteArray := prog_3_method_7_code
def yX1_takeBack : MethodName := ⟨"GuardRoster$History", "takeBack", "(LGuardRoster$Roster;)V"⟩
abbrev cX1_forget : ByteArray := prog_3_method_8_code
def yX1_forget : MethodName := ⟨"GuardRoster$History", "forget", "()V"⟩
abbrev cX2_init : ByteArray := prog_4_method_1_code
def yX2_init : MethodName := ⟨"GuardRoster$Roster", "<init>", "()V"⟩
abbrev cX2_copyTo : ByteArray := prog_4_method_2_code
def yX2_copyTo : MethodName := ⟨"GuardRoster$Roster", "copyTo", "([I)V"⟩
abbrev cX2_copyFrom : ByteArray := prog_4_method_3_code
def yX2_copyFrom : MethodName := ⟨"GuardRoster$Roster", "copyFrom", "([I)V"⟩
abbrev cX2_gates : ByteArray := prog_4_method_4_code
def yX2_gates : MethodName := ⟨"GuardRoster$Roster", "gates", "()I"⟩
abbrev cX2_guards : ByteArray := prog_4_method_5_code
def yX2_guards : MethodName := ⟨"GuardRoster$Roster", "guards", "()I"⟩
abbrev cX2_rationsLeft : ByteArray := prog_4_method_6_code
def yX2_rationsLeft : MethodName := ⟨"GuardRoster$Roster", "rationsLeft", "()I"⟩
abbrev cX2_now : ByteArray := prog_4_method_7_code
def yX2_now : MethodName := ⟨"GuardRoster$Roster", "now", "()I"⟩
abbrev cX2_isGate : ByteArray := prog_4_method_8_code
def yX2_isGate : MethodName := ⟨"GuardRoster$Roster", "isGate", "(I)Z"⟩
abbrev cX2_isGuard : ByteArray := prog_4_method_9_code
def yX2_isGuard : MethodName := ⟨"GuardRoster$Roster", "isGuard", "(I)Z"⟩
abbrev cX2_isSlot : ByteArray := prog_4_method_10_code
def yX2_isSlot : MethodName := ⟨"GuardRoster$Roster", "isSlot", "(I)Z"⟩
abbrev cX2_hasPassed : ByteArray := prog_4_method_11_code
def yX2_hasPassed : MethodName := ⟨"GuardRoster$Roster", "hasPassed", "(I)Z"⟩
abbrev cX2_rankNeededAt : ByteArray := prog_4_method_12_code
def yX2_rankNeededAt : MethodName := ⟨"GuardRoster$Roster", "rankNeededAt", "(I)I"⟩
abbrev cX2_rankOf : ByteArray := prog_4_method_13_code
def yX2_rankOf : MethodName := ⟨"GuardRoster$Roster", "rankOf", "(I)I"⟩
abbrev cX2_faintsOf : ByteArray := prog_4_method_14_code
def yX2_faintsOf : MethodName := ⟨"GuardRoster$Roster", "faintsOf", "(I)I"⟩
abbrev cX2_appendGate : ByteArray := prog_4_method_15_code
def yX2_appendGate : MethodName := ⟨"GuardRoster$Roster", "appendGate", "(I)I"⟩
abbrev cX2_appendGuard : ByteArray := prog_4_method_16_code
def yX2_appendGuard : MethodName := ⟨"GuardRoster$Roster", "appendGuard", "(I)I"⟩
abbrev cX2_guardOn : ByteArray := prog_4_method_17_code
def yX2_guardOn : MethodName := ⟨"GuardRoster$Roster", "guardOn", "(II)I"⟩
abbrev cX2_setDuty : ByteArray := prog_4_method_18_code
def yX2_setDuty : MethodName := ⟨"GuardRoster$Roster", "setDuty", "(III)V"⟩
abbrev cX2_gateHeld : ByteArray := prog_4_method_19_code
def yX2_gateHeld : MethodName := ⟨"GuardRoster$Roster", "gateHeld", "(II)I"⟩
abbrev cX2_firstGateHeld : ByteArray := prog_4_method_20_code
def yX2_firstGateHeld : MethodName := ⟨"GuardRoster$Roster", "firstGateHeld", "(III)I"⟩
abbrev cX2_dutyTotal : ByteArray := prog_4_method_21_code
def yX2_dutyTotal : MethodName := ⟨"GuardRoster$Roster", "dutyTotal", "(I)I"⟩
abbrev cX2_allDuties : ByteArray := prog_4_method_22_code
def yX2_allDuties : MethodName := ⟨"GuardRoster$Roster", "allDuties", "(I)I"⟩
abbrev cX2_openGatesIn : ByteArray := prog_4_method_23_code
def yX2_openGatesIn : MethodName := ⟨"GuardRoster$Roster", "openGatesIn", "(I)I"⟩
abbrev cX2_openSlotsOf : ByteArray := prog_4_method_24_code
def yX2_openSlotsOf : MethodName := ⟨"GuardRoster$Roster", "openSlotsOf", "(I)I"⟩
abbrev cX2_reasonAgainst : ByteArray := prog_4_method_25_code
def yX2_reasonAgainst : MethodName := ⟨"GuardRoster$Roster", "reasonAgainst", "(III)I"⟩
abbrev cX2_detailOf : ByteArray := prog_4_method_26_code
def yX2_detailOf : MethodName := ⟨"GuardRoster$Roster", "detailOf", "(IIII)I"⟩
abbrev cX2_nextSlotOf : ByteArray := prog_4_method_27_code
def yX2_nextSlotOf : MethodName := ⟨"GuardRoster$Roster", "nextSlotOf", "(I)I"⟩
abbrev cX2_longestGap : ByteArray := prog_4_method_28_code
def yX2_longestGap : MethodName := ⟨"GuardRoster$Roster", "longestGap", "(I)I"⟩
abbrev cX2_allRest : ByteArray := prog_4_method_29_code
def yX2_allRest : MethodName := ⟨"GuardRoster$Roster", "allRest", "()Z"⟩
abbrev cX2_computeOrderKeys : ByteArray := prog_4_method_30_code
def yX2_computeOrderKeys : MethodName := ⟨"GuardRoster$Roster", "computeOrderKeys", "()V"⟩
abbrev cX2_guardInOrder : ByteArray := prog_4_method_31_code
def yX2_guardInOrder : MethodName := ⟨"GuardRoster$Roster", "guardInOrder", "(I)I"⟩
abbrev cX2_guardsBefore : ByteArray := prog_4_method_32_code
def yX2_guardsBefore : MethodName := ⟨"GuardRoster$Roster", "guardsBefore", "(I)I"⟩
abbrev cX2_fill : ByteArray := prog_4_method_33_code
def yX2_fill : MethodName := ⟨"GuardRoster$Roster", "fill", "(I)I"⟩
abbrev cX2_mostNeedingGate : ByteArray := prog_4_method_34_code
def yX2_mostNeedingGate : MethodName := ⟨"GuardRoster$Roster", "mostNeedingGate", "(I)I"⟩
abbrev cX2_firstGuardFor : ByteArray := prog_4_method_35_code
def yX2_firstGuardFor : MethodName := ⟨"GuardRoster$Roster", "firstGuardFor", "(II)I"⟩
abbrev cX2_hasLeave : ByteArray := prog_4_method_36_code
def yX2_hasLeave : MethodName := ⟨"GuardRoster$Roster", "hasLeave", "(II)Z"⟩
abbrev cX2_leaveTotal : ByteArray := prog_4_method_37_code
def yX2_leaveTotal : MethodName := ⟨"GuardRoster$Roster", "leaveTotal", "(I)I"⟩
abbrev cX2_addLeave : ByteArray := prog_4_method_38_code
def yX2_addLeave : MethodName := ⟨"GuardRoster$Roster", "addLeave", "(III)I"⟩
abbrev cX2_dropLeave : ByteArray := prog_4_method_39_code
def yX2_dropLeave : MethodName := ⟨"GuardRoster$Roster", "dropLeave", "(II)V"⟩
abbrev cX2_store : ByteArray := prog_4_method_40_code
def yX2_store : MethodName := ⟨"GuardRoster$Roster", "store", "(I)V"⟩
abbrev cX2_letPass : ByteArray := prog_4_method_41_code
def yX2_letPass : MethodName := ⟨"GuardRoster$Roster", "letPass", "(I)I"⟩
abbrev cX2_feedGuardsOf : ByteArray := prog_4_method_42_code
def yX2_feedGuardsOf : MethodName := ⟨"GuardRoster$Roster", "feedGuardsOf", "(I)I"⟩
abbrev cX3_init : ByteArray := prog_5_method_1_code
def yX3_init : MethodName := ⟨"GuardRoster$SlotPlan", "<init>", "()V"⟩
abbrev cX3_prepare : ByteArray := prog_5_method_2_code
def yX3_prepare : MethodName := ⟨"GuardRoster$SlotPlan", "prepare", "(LGuardRoster$Roster;I)V"⟩
abbrev cX3_guardsThatFit : ByteArray := prog_5_method_3_code
def yX3_guardsThatFit : MethodName := ⟨"GuardRoster$SlotPlan", "guardsThatFit", "(LGuardRoster$Roster;II)I"⟩
abbrev cX3_countByPaths : ByteArray := prog_5_method_4_code
def yX3_countByPaths : MethodName := ⟨"GuardRoster$SlotPlan", "countByPaths", "()I"⟩
abbrev cX3_finds : ByteArray := prog_5_method_5_code
def yX3_finds : MethodName := ⟨"GuardRoster$SlotPlan", "finds", "(LGuardRoster$SlotPlan;II)Z"⟩
abbrev cX3_countBySets : ByteArray := prog_5_method_6_code
def yX3_countBySets : MethodName := ⟨"GuardRoster$SlotPlan", "countBySets", "()I"⟩
abbrev cX4_init : ByteArray := prog_1_method_1_code
def yX4_init : MethodName := ⟨"GuardRoster", "<init>", "()V"⟩
abbrev cX4_addGate : ByteArray := prog_1_method_2_code
def yX4_addGate : MethodName := ⟨"GuardRoster", "addGate", "(I)I"⟩
abbrev cX4_addGuard : ByteArray := prog_1_method_3_code
def yX4_addGuard : MethodName := ⟨"GuardRoster", "addGuard", "(I)I"⟩
abbrev cX4_gateCount : ByteArray := prog_1_method_4_code
def yX4_gateCount : MethodName := ⟨"GuardRoster", "gateCount", "()I"⟩
abbrev cX4_guardCount : ByteArray := prog_1_method_5_code
def yX4_guardCount : MethodName := ⟨"GuardRoster", "guardCount", "()I"⟩
abbrev cX4_neededRank : ByteArray := prog_1_method_6_code
def yX4_neededRank : MethodName := ⟨"GuardRoster", "neededRank", "(I)I"⟩
abbrev cX4_rank : ByteArray := prog_1_method_7_code
def yX4_rank : MethodName := ⟨"GuardRoster", "rank", "(I)I"⟩
abbrev cX4_faints : ByteArray := prog_1_method_8_code
def yX4_faints : MethodName := ⟨"GuardRoster", "faints", "(I)I"⟩
abbrev cX4_assign : ByteArray := prog_1_method_9_code
def yX4_assign : MethodName := ⟨"GuardRoster", "assign", "(III)I"⟩
abbrev cX4_canAssign : ByteArray := prog_1_method_10_code
def yX4_canAssign : MethodName := ⟨"GuardRoster", "canAssign", "(III)Z"⟩
abbrev cX4_remove : ByteArray := prog_1_method_11_code
def yX4_remove : MethodName := ⟨"GuardRoster", "remove", "(II)I"⟩
abbrev cX4_exchange : ByteArray := prog_1_method_12_code
def yX4_exchange : MethodName := ⟨"GuardRoster", "exchange", "(IIII)I"⟩
abbrev cX4_fillSlot : ByteArray := prog_1_method_13_code
def yX4_fillSlot : MethodName := ⟨"GuardRoster", "fillSlot", "(I)I"⟩
abbrev cX4_guardAt : ByteArray := prog_1_method_14_code
def yX4_guardAt : MethodName := ⟨"GuardRoster", "guardAt", "(II)I"⟩
abbrev cX4_gateOf : ByteArray := prog_1_method_15_code
def yX4_gateOf : MethodName := ⟨"GuardRoster", "gateOf", "(II)I"⟩
abbrev cX4_dutiesOf : ByteArray := prog_1_method_16_code
def yX4_dutiesOf : MethodName := ⟨"GuardRoster", "dutiesOf", "(I)I"⟩
abbrev cX4_dutyCount : ByteArray := prog_1_method_17_code
def yX4_dutyCount : MethodName := ⟨"GuardRoster", "dutyCount", "()I"⟩
abbrev cX4_openGates : ByteArray := prog_1_method_18_code
def yX4_openGates : MethodName := ⟨"GuardRoster", "openGates", "(I)I"⟩
abbrev cX4_openPlaces : ByteArray := prog_1_method_19_code
def yX4_openPlaces : MethodName := ⟨"GuardRoster", "openPlaces", "()I"⟩
abbrev cX4_openPlacesBySlots : ByteArray := prog_1_method_20_code
def yX4_openPlacesBySlots : MethodName := ⟨"GuardRoster", "openPlacesBySlots", "()I"⟩
abbrev cX4_mostDuties : ByteArray := prog_1_method_21_code
def yX4_mostDuties : MethodName := ⟨"GuardRoster", "mostDuties", "(I)I"⟩
abbrev cX4_mostDutiesBySets : ByteArray := prog_1_method_22_code
def yX4_mostDutiesBySets : MethodName := ⟨"GuardRoster", "mostDutiesBySets", "(I)I"⟩
abbrev cX4_nextDuty : ByteArray := prog_1_method_23_code
def yX4_nextDuty : MethodName := ⟨"GuardRoster", "nextDuty", "(I)I"⟩
abbrev cX4_longestRest : ByteArray := prog_1_method_24_code
def yX4_longestRest : MethodName := ⟨"GuardRoster", "longestRest", "(I)I"⟩
abbrev cX4_guardByDuties : ByteArray := prog_1_method_25_code
def yX4_guardByDuties : MethodName := ⟨"GuardRoster", "guardByDuties", "(I)I"⟩
abbrev cX4_grantLeave : ByteArray := prog_1_method_26_code
def yX4_grantLeave : MethodName := ⟨"GuardRoster", "grantLeave", "(III)I"⟩
abbrev cX4_endLeave : ByteArray := prog_1_method_27_code
def yX4_endLeave : MethodName := ⟨"GuardRoster", "endLeave", "(II)I"⟩
abbrev cX4_isOnLeave : ByteArray := prog_1_method_28_code
def yX4_isOnLeave : MethodName := ⟨"GuardRoster", "isOnLeave", "(II)Z"⟩
abbrev cX4_leaveSlots : ByteArray := prog_1_method_29_code
def yX4_leaveSlots : MethodName := ⟨"GuardRoster", "leaveSlots", "(I)I"⟩
abbrev cX4_addRations : ByteArray := prog_1_method_30_code
def yX4_addRations : MethodName := ⟨"GuardRoster", "addRations", "(I)I"⟩
abbrev cX4_passSlots : ByteArray := prog_1_method_31_code
def yX4_passSlots : MethodName := ⟨"GuardRoster", "passSlots", "(I)I"⟩
abbrev cX4_rations : ByteArray := prog_1_method_32_code
def yX4_rations : MethodName := ⟨"GuardRoster", "rations", "()I"⟩
abbrev cX4_currentSlot : ByteArray := prog_1_method_33_code
def yX4_currentSlot : MethodName := ⟨"GuardRoster", "currentSlot", "()I"⟩
abbrev cX4_missingRations : ByteArray := prog_1_method_34_code
def yX4_missingRations : MethodName := ⟨"GuardRoster", "missingRations", "()I"⟩
abbrev cX4_refusalReason : ByteArray := prog_1_method_35_code
def yX4_refusalReason : MethodName := ⟨"GuardRoster", "refusalReason", "()I"⟩
abbrev cX4_refusalDetail : ByteArray := prog_1_method_36_code
def yX4_refusalDetail : MethodName := ⟨"GuardRoster", "refusalDetail", "()I"⟩
abbrev cX4_meanDuties : ByteArray := prog_1_method_37_code
def yX4_meanDuties : MethodName := ⟨"GuardRoster", "meanDuties", "()D"⟩
abbrev cX4_coveredFraction : ByteArray := prog_1_method_38_code
def yX4_coveredFraction : MethodName := ⟨"GuardRoster", "coveredFraction", "()F"⟩
abbrev cX4_writeSlot : ByteArray := prog_1_method_39_code
def yX4_writeSlot : MethodName := ⟨"GuardRoster", "writeSlot", "(I)I"⟩
abbrev cX4_writeGuard : ByteArray := prog_1_method_40_code
def yX4_writeGuard : MethodName := ⟨"GuardRoster", "writeGuard", "(I)I"⟩
abbrev cX4_outputCharacter : ByteArray := prog_1_method_41_code
def yX4_outputCharacter : MethodName := ⟨"GuardRoster", "outputCharacter", "(I)C"⟩
abbrev cX4_isConsistent : ByteArray := prog_1_method_42_code
def yX4_isConsistent : MethodName := ⟨"GuardRoster", "isConsistent", "()Z"⟩
abbrev cX4_feed : ByteArray := prog_1_method_43_code
def yX4_feed : MethodName := ⟨"GuardRoster", "feed", "(C)I"⟩
abbrev cX4_execute : ByteArray := prog_1_method_44_code
def yX4_execute : MethodName := ⟨"GuardRoster", "execute", "()I"⟩
abbrev cX4_errorPosition : ByteArray := prog_1_method_45_code
def yX4_errorPosition : MethodName := ⟨"GuardRoster", "errorPosition", "()I"⟩
abbrev cX4_failedCommand : ByteArray := prog_1_method_46_code
def yX4_failedCommand : MethodName := ⟨"GuardRoster", "failedCommand", "()I"⟩
abbrev cX4_undo : ByteArray := prog_1_method_47_code
def yX4_undo : MethodName := ⟨"GuardRoster", "undo", "()I"⟩
abbrev cX4_undoCount : ByteArray := prog_1_method_48_code
def yX4_undoCount : MethodName := ⟨"GuardRoster", "undoCount", "()I"⟩
abbrev cX4_save : ByteArray := prog_1_method_49_code
def yX4_save : MethodName := ⟨"GuardRoster", "save", "()I"⟩
abbrev cX4_restore : ByteArray := prog_1_method_50_code
def yX4_restore : MethodName := ⟨"GuardRoster", "restore", "()I"⟩
abbrev cX4_throwFor : ByteArray := prog_1_method_51_code
def yX4_throwFor : MethodName := ⟨"GuardRoster", "throwFor", "(I)V"⟩
abbrev cX4_throwUnlessGuard : ByteArray := prog_1_method_52_code
def yX4_throwUnlessGuard : MethodName := ⟨"GuardRoster", "throwUnlessGuard", "(I)V"⟩
abbrev cX4_throwUnlessSlot : ByteArray := prog_1_method_53_code
def yX4_throwUnlessSlot : MethodName := ⟨"GuardRoster", "throwUnlessSlot", "(I)V"⟩
abbrev cX4_throwUnlessGuardAndSlot : ByteArray := prog_1_method_54_code
def yX4_throwUnlessGuardAndSlot : MethodName := ⟨"GuardRoster", "throwUnlessGuardAndSlot", "(II)V"⟩
abbrev cX4_throwUnlessRefused : ByteArray := prog_1_method_55_code
def yX4_throwUnlessRefused : MethodName := ⟨"GuardRoster", "throwUnlessRefused", "()V"⟩
abbrev cX4_isRank : ByteArray := prog_1_method_56_code
def yX4_isRank : MethodName := ⟨"GuardRoster", "isRank", "(I)Z"⟩
abbrev cX4_problemOfGate : ByteArray := prog_1_method_57_code
def yX4_problemOfGate : MethodName := ⟨"GuardRoster", "problemOfGate", "(I)I"⟩
abbrev cX4_problemOfGuard : ByteArray := prog_1_method_58_code
def yX4_problemOfGuard : MethodName := ⟨"GuardRoster", "problemOfGuard", "(I)I"⟩
abbrev cX4_problemOfDuty : ByteArray := prog_1_method_59_code
def yX4_problemOfDuty : MethodName := ⟨"GuardRoster", "problemOfDuty", "(III)I"⟩
abbrev cX4_problemOfFreeing : ByteArray := prog_1_method_60_code
def yX4_problemOfFreeing : MethodName := ⟨"GuardRoster", "problemOfFreeing", "(II)I"⟩
abbrev cX4_problemOfExchange : ByteArray := prog_1_method_61_code
def yX4_problemOfExchange : MethodName := ⟨"GuardRoster", "problemOfExchange", "(IIII)I"⟩
abbrev cX4_problemOfFilling : ByteArray := prog_1_method_62_code
def yX4_problemOfFilling : MethodName := ⟨"GuardRoster", "problemOfFilling", "(I)I"⟩
abbrev cX4_problemOfLeave : ByteArray := prog_1_method_63_code
def yX4_problemOfLeave : MethodName := ⟨"GuardRoster", "problemOfLeave", "(III)I"⟩
abbrev cX4_problemOfFood : ByteArray := prog_1_method_64_code
def yX4_problemOfFood : MethodName := ⟨"GuardRoster", "problemOfFood", "(I)I"⟩
abbrev cX4_problemOfPassing : ByteArray := prog_1_method_65_code
def yX4_problemOfPassing : MethodName := ⟨"GuardRoster", "problemOfPassing", "(I)I"⟩
abbrev cX4_isRefused : ByteArray := prog_1_method_66_code
def yX4_isRefused : MethodName := ⟨"GuardRoster", "isRefused", "(III)Z"⟩
abbrev cX4_isExchangeRefused : ByteArray := prog_1_method_67_code
def yX4_isExchangeRefused : MethodName := ⟨"GuardRoster", "isExchangeRefused", "(IIII)Z"⟩
abbrev cX4_keepRefusal : ByteArray := prog_1_method_68_code
def yX4_keepRefusal : MethodName := ⟨"GuardRoster", "keepRefusal", "(II)V"⟩
abbrev cX4_runs : ByteArray := prog_1_method_69_code
def yX4_runs : MethodName := ⟨"GuardRoster", "runs", "(I)Z"⟩
abbrev cX4_problemOfCommand : ByteArray := prog_1_method_70_code
def yX4_problemOfCommand : MethodName := ⟨"GuardRoster", "problemOfCommand", "(IIII)I"⟩
abbrev cX4_carryOut : ByteArray := prog_1_method_71_code
def yX4_carryOut : MethodName := ⟨"GuardRoster", "carryOut", "(IIII)V"⟩
abbrev cX4_put : ByteArray := prog_1_method_72_code
def yX4_put : MethodName := ⟨"GuardRoster", "put", "(C)V"⟩
abbrev cX4_putNumber : ByteArray := prog_1_method_73_code
def yX4_putNumber : MethodName := ⟨"GuardRoster", "putNumber", "(I)V"⟩
abbrev cX4_putNumberOr : ByteArray := prog_1_method_74_code
def yX4_putNumberOr : MethodName := ⟨"GuardRoster", "putNumberOr", "(IC)V"⟩
abbrev cX5_init : ByteArray := prog_7_method_1_code
def yX5_init : MethodName := ⟨"GuardRosterModel", "<init>", "()V"⟩
abbrev cX5_thrown : ByteArray := prog_7_method_2_code
def yX5_thrown : MethodName := ⟨"GuardRosterModel", "thrown", "()I"⟩
abbrev cX5_fails : ByteArray := prog_7_method_3_code
def yX5_fails : MethodName := ⟨"GuardRosterModel", "fails", "(I)Z"⟩
abbrev cX5_in : ByteArray := prog_7_method_4_code
def yX5_in : MethodName := ⟨"GuardRosterModel", "in", "(III)Z"⟩
abbrev cX5_copies : ByteArray := prog_7_method_5_code
def yX5_copies : MethodName := ⟨"GuardRosterModel", "copies", "([II[II)V"⟩
abbrev cX5_keeps : ByteArray := prog_7_method_6_code
def yX5_keeps : MethodName := ⟨"GuardRosterModel", "keeps", "([I)V"⟩
abbrev cX5_isGate : ByteArray := prog_7_method_7_code
def yX5_isGate : MethodName := ⟨"GuardRosterModel", "isGate", "(I)Z"⟩
abbrev cX5_isGuard : ByteArray := prog_7_method_8_code
def yX5_isGuard : MethodName := ⟨"GuardRosterModel", "isGuard", "(I)Z"⟩
abbrev cX5_isSlot : ByteArray := prog_7_method_9_code
def yX5_isSlot : MethodName := ⟨"GuardRosterModel", "isSlot", "(I)Z"⟩
abbrev cX5_arePlace : ByteArray := prog_7_method_10_code
def yX5_arePlace : MethodName := ⟨"GuardRosterModel", "arePlace", "(II)Z"⟩
abbrev cX5_ranked : ByteArray := prog_7_method_11_code
def yX5_ranked : MethodName := ⟨"GuardRosterModel", "ranked", "(I)I"⟩
abbrev cX5_who : ByteArray := prog_7_method_12_code
def yX5_who : MethodName := ⟨"GuardRosterModel", "who", "(II)I"⟩
abbrev cX5_puts : ByteArray := prog_7_method_13_code
def yX5_puts : MethodName := ⟨"GuardRosterModel", "puts", "(III)V"⟩
abbrev cX5_where : ByteArray := prog_7_method_14_code
def yX5_where : MethodName := ⟨"GuardRosterModel", "where", "(II)I"⟩
abbrev cX5_isOff : ByteArray := prog_7_method_15_code
def yX5_isOff : MethodName := ⟨"GuardRosterModel", "isOff", "(II)Z"⟩
abbrev cX5_addGate : ByteArray := prog_7_method_16_code
def yX5_addGate : MethodName := ⟨"GuardRosterModel", "addGate", "(I)I"⟩
abbrev cX5_addGuard : ByteArray := prog_7_method_17_code
def yX5_addGuard : MethodName := ⟨"GuardRosterModel", "addGuard", "(I)I"⟩
abbrev cX5_gateCount : ByteArray := prog_7_method_18_code
def yX5_gateCount : MethodName := ⟨"GuardRosterModel", "gateCount", "()I"⟩
abbrev cX5_guardCount : ByteArray := prog_7_method_19_code
def yX5_guardCount : MethodName := ⟨"GuardRosterModel", "guardCount", "()I"⟩
abbrev cX5_neededRank : ByteArray := prog_7_method_20_code
def yX5_neededRank : MethodName := ⟨"GuardRosterModel", "neededRank", "(I)I"⟩
abbrev cX5_isNone : ByteArray := prog_7_method_21_code
def yX5_isNone : MethodName := ⟨"GuardRosterModel", "isNone", "(I)Z"⟩
abbrev cX5_rank : ByteArray := prog_7_method_22_code
def yX5_rank : MethodName := ⟨"GuardRosterModel", "rank", "(I)I"⟩
abbrev cX5_faints : ByteArray := prog_7_method_23_code
def yX5_faints : MethodName := ⟨"GuardRosterModel", "faints", "(I)I"⟩
abbrev cX5_refuses : ByteArray := prog_7_method_24_code
def yX5_refuses : MethodName := ⟨"GuardRosterModel", "refuses", "(III)I"⟩
abbrev cX5_isRefused : ByteArray := prog_7_method_25_code
def yX5_isRefused : MethodName := ⟨"GuardRosterModel", "isRefused", "(IIII)Z"⟩
abbrev cX5_duties : ByteArray := prog_7_method_26_code
def yX5_duties : MethodName := ⟨"GuardRosterModel", "duties", "(I)I"⟩
abbrev cX5_assign : ByteArray := prog_7_method_27_code
def yX5_assign : MethodName := ⟨"GuardRosterModel", "assign", "(III)I"⟩
abbrev cX5_canAssign : ByteArray := prog_7_method_28_code
def yX5_canAssign : MethodName := ⟨"GuardRosterModel", "canAssign", "(III)Z"⟩
abbrev cX5_remove : ByteArray := prog_7_method_29_code
def yX5_remove : MethodName := ⟨"GuardRosterModel", "remove", "(II)I"⟩
abbrev cX5_exchange : ByteArray := prog_7_method_30_code
def yX5_exchange : MethodName := ⟨"GuardRosterModel", "exchange", "(IIII)I"⟩
abbrev cX5_nextGate : ByteArray := prog_7_method_31_code
def yX5_nextGate : MethodName := ⟨"GuardRosterModel", "nextGate", "(II)I"⟩
abbrev cX5_isAhead : ByteArray := prog_7_method_32_code
def yX5_isAhead : MethodName := ⟨"GuardRosterModel", "isAhead", "(II)Z"⟩
abbrev cX5_chosen : ByteArray := prog_7_method_33_code
def yX5_chosen : MethodName := ⟨"GuardRosterModel", "chosen", "(II)I"⟩
abbrev cX5_fillSlot : ByteArray := prog_7_method_34_code
def yX5_fillSlot : MethodName := ⟨"GuardRosterModel", "fillSlot", "(I)I"⟩
abbrev cX5_guardAt : ByteArray := prog_7_method_35_code
def yX5_guardAt : MethodName := ⟨"GuardRosterModel", "guardAt", "(II)I"⟩
abbrev cX5_gateOf : ByteArray := prog_7_method_36_code
def yX5_gateOf : MethodName := ⟨"GuardRosterModel", "gateOf", "(II)I"⟩
abbrev cX5_dutiesOf : ByteArray := prog_7_method_37_code
def yX5_dutiesOf : MethodName := ⟨"GuardRosterModel", "dutiesOf", "(I)I"⟩
abbrev cX5_allDuties : ByteArray := prog_7_method_38_code
def yX5_allDuties : MethodName := ⟨"GuardRosterModel", "allDuties", "()I"⟩
abbrev cX5_dutyCount : ByteArray := prog_7_method_39_code
def yX5_dutyCount : MethodName := ⟨"GuardRosterModel", "dutyCount", "()I"⟩
abbrev cX5_open : ByteArray := prog_7_method_40_code
def yX5_open : MethodName := ⟨"GuardRosterModel", "open", "(I)I"⟩
abbrev cX5_openGates : ByteArray := prog_7_method_41_code
def yX5_openGates : MethodName := ⟨"GuardRosterModel", "openGates", "(I)I"⟩
abbrev cX5_openFromNow : ByteArray := prog_7_method_42_code
def yX5_openFromNow : MethodName := ⟨"GuardRosterModel", "openFromNow", "()I"⟩
abbrev cX5_openPlaces : ByteArray := prog_7_method_43_code
def yX5_openPlaces : MethodName := ⟨"GuardRosterModel", "openPlaces", "()I"⟩
abbrev cX5_openPlacesBySlots : ByteArray := prog_7_method_44_code
def yX5_openPlacesBySlots : MethodName := ⟨"GuardRosterModel", "openPlacesBySlots", "()I"⟩
abbrev cX5_most : ByteArray := prog_7_method_45_code
def yX5_most : MethodName := ⟨"GuardRosterModel", "most", "(I)I"⟩
abbrev cX5_mostDuties : ByteArray := prog_7_method_46_code
def yX5_mostDuties : MethodName := ⟨"GuardRosterModel", "mostDuties", "(I)I"⟩
abbrev cX5_mostDutiesBySets : ByteArray := prog_7_method_47_code
def yX5_mostDutiesBySets : MethodName := ⟨"GuardRosterModel", "mostDutiesBySets", "(I)I"⟩
abbrev cX5_following : ByteArray := prog_7_method_48_code
def yX5_following : MethodName := ⟨"GuardRosterModel", "following", "(I)I"⟩
abbrev cX5_nextDuty : ByteArray := prog_7_method_49_code
def yX5_nextDuty : MethodName := ⟨"GuardRosterModel", "nextDuty", "(I)I"⟩
abbrev cX5_longestRest : ByteArray := prog_7_method_50_code
def yX5_longestRest : MethodName := ⟨"GuardRosterModel", "longestRest", "(I)I"⟩
abbrev cX5_guardByDuties : ByteArray := prog_7_method_51_code
def yX5_guardByDuties : MethodName := ⟨"GuardRosterModel", "guardByDuties", "(I)I"⟩
abbrev cX5_bits : ByteArray := prog_7_method_52_code
def yX5_bits : MethodName := ⟨"GuardRosterModel", "bits", "(I)I"⟩
abbrev cX5_grantLeave : ByteArray := prog_7_method_53_code
def yX5_grantLeave : MethodName := ⟨"GuardRosterModel", "grantLeave", "(III)I"⟩
abbrev cX5_endLeave : ByteArray := prog_7_method_54_code
def yX5_endLeave : MethodName := ⟨"GuardRosterModel", "endLeave", "(II)I"⟩
abbrev cX5_isOnLeave : ByteArray := prog_7_method_55_code
def yX5_isOnLeave : MethodName := ⟨"GuardRosterModel", "isOnLeave", "(II)Z"⟩
abbrev cX5_leaveSlots : ByteArray := prog_7_method_56_code
def yX5_leaveSlots : MethodName := ⟨"GuardRosterModel", "leaveSlots", "(I)I"⟩
abbrev cX5_addRations : ByteArray := prog_7_method_57_code
def yX5_addRations : MethodName := ⟨"GuardRosterModel", "addRations", "(I)I"⟩
abbrev cX5_goes : ByteArray := prog_7_method_58_code
def yX5_goes : MethodName := ⟨"GuardRosterModel", "goes", "()I"⟩
abbrev cX5_passSlots : ByteArray := prog_7_method_59_code
def yX5_passSlots : MethodName := ⟨"GuardRosterModel", "passSlots", "(I)I"⟩
abbrev cX5_rations : ByteArray := prog_7_method_60_code
def yX5_rations : MethodName := ⟨"GuardRosterModel", "rations", "()I"⟩
abbrev cX5_currentSlot : ByteArray := prog_7_method_61_code
def yX5_currentSlot : MethodName := ⟨"GuardRosterModel", "currentSlot", "()I"⟩
abbrev cX5_missingRations : ByteArray := prog_7_method_62_code
def yX5_missingRations : MethodName := ⟨"GuardRosterModel", "missingRations", "()I"⟩
abbrev cX5_refusalReason : ByteArray := prog_7_method_63_code
def yX5_refusalReason : MethodName := ⟨"GuardRosterModel", "refusalReason", "()I"⟩
abbrev cX5_refusalDetail : ByteArray := prog_7_method_64_code
def yX5_refusalDetail : MethodName := ⟨"GuardRosterModel", "refusalDetail", "()I"⟩
abbrev cX5_meanDuties : ByteArray := prog_7_method_65_code
def yX5_meanDuties : MethodName := ⟨"GuardRosterModel", "meanDuties", "()D"⟩
abbrev cX5_coveredFraction : ByteArray := prog_7_method_66_code
def yX5_coveredFraction : MethodName := ⟨"GuardRosterModel", "coveredFraction", "()F"⟩
abbrev cX5_writes : ByteArray := prog_7_method_67_code
def yX5_writes : MethodName := ⟨"GuardRosterModel", "writes", "(I)V"⟩
abbrev cX5_writeSlot : ByteArray := prog_7_method_68_code
def yX5_writeSlot : MethodName := ⟨"GuardRosterModel", "writeSlot", "(I)I"⟩
abbrev cX5_writeGuard : ByteArray := prog_7_method_69_code
def yX5_writeGuard : MethodName := ⟨"GuardRosterModel", "writeGuard", "(I)I"⟩
abbrev cX5_outputCharacter : ByteArray := prog_7_method_70_code
def yX5_outputCharacter : MethodName := ⟨"GuardRosterModel", "outputCharacter", "(I)C"⟩
abbrev cX5_isConsistent : ByteArray := prog_7_method_71_code
def yX5_isConsistent : MethodName := ⟨"GuardRosterModel", "isConsistent", "()Z"⟩
abbrev cX5_feed : ByteArray := prog_7_method_72_code
def yX5_feed : MethodName := ⟨"GuardRosterModel", "feed", "(C)I"⟩
abbrev cX5_here : ByteArray := prog_7_method_73_code
def yX5_here : MethodName := ⟨"GuardRosterModel", "here", "()I"⟩
abbrev cX5_skips : ByteArray := prog_7_method_74_code
def yX5_skips : MethodName := ⟨"GuardRosterModel", "skips", "(I)Z"⟩
abbrev cX5_isWord : ByteArray := prog_7_method_75_code
def yX5_isWord : MethodName := ⟨"GuardRosterModel", "isWord", "(ILjava/lang/String;)Z"⟩
abbrev cX5_figures : ByteArray := prog_7_method_76_code
def yX5_figures : MethodName := ⟨"GuardRosterModel", "figures", "(III)Z"⟩
abbrev cX5_withG : ByteArray := prog_7_method_77_code
def yX5_withG : MethodName := ⟨"GuardRosterModel", "withG", "(I)Z"⟩
abbrev cX5_withF : ByteArray := prog_7_method_78_code
def yX5_withF : MethodName := ⟨"GuardRosterModel", "withF", "(I)Z"⟩
abbrev cX5_commandHere : ByteArray := prog_7_method_79_code
def yX5_commandHere : MethodName := ⟨"GuardRosterModel", "commandHere", "()Z"⟩
abbrev cX5_isText : ByteArray := prog_7_method_80_code
def yX5_isText : MethodName := ⟨"GuardRosterModel", "isText", "()Z"⟩
abbrev cX5_carries : ByteArray := prog_7_method_81_code
def yX5_carries : MethodName := ⟨"GuardRosterModel", "carries", "(I)I"⟩
abbrev cX5_execute : ByteArray := prog_7_method_82_code
def yX5_execute : MethodName := ⟨"GuardRosterModel", "execute", "()I"⟩
abbrev cX5_errorPosition : ByteArray := prog_7_method_83_code
def yX5_errorPosition : MethodName := ⟨"GuardRosterModel", "errorPosition", "()I"⟩
abbrev cX5_failedCommand : ByteArray := prog_7_method_84_code
def yX5_failedCommand : MethodName := ⟨"GuardRosterModel", "failedCommand", "()I"⟩
abbrev cX5_undo : ByteArray := prog_7_method_85_code
def yX5_undo : MethodName := ⟨"GuardRosterModel", "undo", "()I"⟩
abbrev cX5_undoCount : ByteArray := prog_7_method_86_code
def yX5_undoCount : MethodName := ⟨"GuardRosterModel", "undoCount", "()I"⟩
abbrev cX5_save : ByteArray := prog_7_method_87_code
def yX5_save : MethodName := ⟨"GuardRosterModel", "save", "()I"⟩
abbrev cX5_restore : ByteArray := prog_7_method_88_code
def yX5_restore : MethodName := ⟨"GuardRosterModel", "restore", "()I"⟩
abbrev cJ6_numberOfTrailingZeros_0f7a4 : ByteArray := prog_17_method_48_code
def yJ6_numberOfTrailingZeros_0f7a4 : MethodName := ⟨"java/lang/Integer", "numberOfTrailingZeros", "(I)I"⟩
abbrev cJ6_bitCount_0f7a4 : ByteArray := prog_17_method_49_code
def yJ6_bitCount_0f7a4 : MethodName := ⟨"java/lang/Integer", "bitCount", "(I)I"⟩
abbrev cJ0_length_8abf5 : ByteArray := prog_20_method_54_code
def yJ0_length_8abf5 : MethodName := ⟨"java/lang/String", "length", "()I"⟩
abbrev cJ0_charAt_5068e : ByteArray := prog_20_method_56_code
def yJ0_charAt_5068e : MethodName := ⟨"java/lang/String", "charAt", "(I)C"⟩
abbrev cJ0_coder_7d493 : ByteArray := prog_20_method_152_code
def yJ0_coder_7d493 : MethodName := ⟨"java/lang/String", "coder", "()B"⟩
abbrev cJ0_isLatin1_aae02 : ByteArray := prog_20_method_154_code
def yJ0_isLatin1_aae02 : MethodName := ⟨"java/lang/String", "isLatin1", "()Z"⟩
abbrev cJ0_checkIndex_df160 : ByteArray := prog_20_method_155_code
def yJ0_checkIndex_df160 : MethodName := ⟨"java/lang/String", "checkIndex", "(II)V"⟩
abbrev cJ1_charAt_3b067 : ByteArray := prog_21_method_2_code
def yJ1_charAt_3b067 : MethodName := ⟨"java/lang/StringLatin1", "charAt", "([BI)C"⟩
abbrev cJ3_checkIndex_8e157 : ByteArray := prog_29_method_11_code
def yJ3_checkIndex_8e157 : MethodName := ⟨"jdk/internal/util/Preconditions", "checkIndex", "(IILjava/util/function/BiFunction;)I"⟩
abbrev cL_addGate : ByteArray := method_3_code
def yL_addGate : MethodName := ⟨"GuardRosterLaw", "addGate", "(LGuardRoster;I[J)I"⟩
abbrev cL_addGuard : ByteArray := method_4_code
def yL_addGuard : MethodName := ⟨"GuardRosterLaw", "addGuard", "(LGuardRoster;I[J)I"⟩
abbrev cL_neededRank : ByteArray := method_5_code
def yL_neededRank : MethodName := ⟨"GuardRosterLaw", "neededRank", "(LGuardRoster;I[J)I"⟩
abbrev cL_rank : ByteArray := method_6_code
def yL_rank : MethodName := ⟨"GuardRosterLaw", "rank", "(LGuardRoster;I[J)I"⟩
abbrev cL_faints : ByteArray := method_7_code
def yL_faints : MethodName := ⟨"GuardRosterLaw", "faints", "(LGuardRoster;I[J)I"⟩
abbrev cL_assign : ByteArray := method_8_code
def yL_assign : MethodName := ⟨"GuardRosterLaw", "assign", "(LGuardRoster;III[J)I"⟩
abbrev cL_canAssign : ByteArray := method_9_code
def yL_canAssign : MethodName := ⟨"GuardRosterLaw", "canAssign", "(LGuardRoster;III[J)I"⟩
abbrev cL_remove : ByteArray := method_10_code
def yL_remove : MethodName := ⟨"GuardRosterLaw", "remove", "(LGuardRoster;II[J)I"⟩
abbrev cL_exchange : ByteArray := method_11_code
def yL_exchange : MethodName := ⟨"GuardRosterLaw", "exchange", "(LGuardRoster;IIII[J)I"⟩
abbrev cL_fillSlot : ByteArray := method_12_code
def yL_fillSlot : MethodName := ⟨"GuardRosterLaw", "fillSlot", "(LGuardRoster;I[J)I"⟩
abbrev cL_guardAt : ByteArray := method_13_code
def yL_guardAt : MethodName := ⟨"GuardRosterLaw", "guardAt", "(LGuardRoster;II[J)I"⟩
abbrev cL_gateOf : ByteArray := method_14_code
def yL_gateOf : MethodName := ⟨"GuardRosterLaw", "gateOf", "(LGuardRoster;II[J)I"⟩
abbrev cL_dutiesOf : ByteArray := method_15_code
def yL_dutiesOf : MethodName := ⟨"GuardRosterLaw", "dutiesOf", "(LGuardRoster;I[J)I"⟩
abbrev cL_openGates : ByteArray := method_16_code
def yL_openGates : MethodName := ⟨"GuardRosterLaw", "openGates", "(LGuardRoster;I[J)I"⟩
abbrev cL_mostDuties : ByteArray := method_17_code
def yL_mostDuties : MethodName := ⟨"GuardRosterLaw", "mostDuties", "(LGuardRoster;I[J)I"⟩
abbrev cL_mostDutiesBySets : ByteArray := method_18_code
def yL_mostDutiesBySets : MethodName := ⟨"GuardRosterLaw", "mostDutiesBySets", "(LGuardRoster;I[J)I"⟩
abbrev cL_nextDuty : ByteArray := method_19_code
def yL_nextDuty : MethodName := ⟨"GuardRosterLaw", "nextDuty", "(LGuardRoster;I[J)I"⟩
abbrev cL_longestRest : ByteArray := method_20_code
def yL_longestRest : MethodName := ⟨"GuardRosterLaw", "longestRest", "(LGuardRoster;I[J)I"⟩
abbrev cL_guardByDuties : ByteArray := method_21_code
def yL_guardByDuties : MethodName := ⟨"GuardRosterLaw", "guardByDuties", "(LGuardRoster;I[J)I"⟩
abbrev cL_grantLeave : ByteArray := method_22_code
def yL_grantLeave : MethodName := ⟨"GuardRosterLaw", "grantLeave", "(LGuardRoster;III[J)I"⟩
abbrev cL_endLeave : ByteArray := method_23_code
def yL_endLeave : MethodName := ⟨"GuardRosterLaw", "endLeave", "(LGuardRoster;II[J)I"⟩
abbrev cL_isOnLeave : ByteArray := method_24_code
def yL_isOnLeave : MethodName := ⟨"GuardRosterLaw", "isOnLeave", "(LGuardRoster;II[J)I"⟩
abbrev cL_leaveSlots : ByteArray := method_25_code
def yL_leaveSlots : MethodName := ⟨"GuardRosterLaw", "leaveSlots", "(LGuardRoster;I[J)I"⟩
abbrev cL_addRations : ByteArray := method_26_code
def yL_addRations : MethodName := ⟨"GuardRosterLaw", "addRations", "(LGuardRoster;I[J)I"⟩
abbrev cL_passSlots : ByteArray := method_27_code
def yL_passSlots : MethodName := ⟨"GuardRosterLaw", "passSlots", "(LGuardRoster;I[J)I"⟩
abbrev cL_refusalReason : ByteArray := method_28_code
def yL_refusalReason : MethodName := ⟨"GuardRosterLaw", "refusalReason", "(LGuardRoster;[J)I"⟩
abbrev cL_refusalDetail : ByteArray := method_29_code
def yL_refusalDetail : MethodName := ⟨"GuardRosterLaw", "refusalDetail", "(LGuardRoster;[J)I"⟩
abbrev cL_meanDuties : ByteArray := method_30_code
def yL_meanDuties : MethodName := ⟨"GuardRosterLaw", "meanDuties", "(LGuardRoster;[D)I"⟩
abbrev cL_coveredFraction : ByteArray := method_31_code
def yL_coveredFraction : MethodName := ⟨"GuardRosterLaw", "coveredFraction", "(LGuardRoster;[D)I"⟩
abbrev cL_writeSlot : ByteArray := method_32_code
def yL_writeSlot : MethodName := ⟨"GuardRosterLaw", "writeSlot", "(LGuardRoster;I[J)I"⟩
abbrev cL_writeGuard : ByteArray := method_33_code
def yL_writeGuard : MethodName := ⟨"GuardRosterLaw", "writeGuard", "(LGuardRoster;I[J)I"⟩
abbrev cL_outputCharacter : ByteArray := method_34_code
def yL_outputCharacter : MethodName := ⟨"GuardRosterLaw", "outputCharacter", "(LGuardRoster;I[J)I"⟩
abbrev cL_feed : ByteArray := method_35_code
def yL_feed : MethodName := ⟨"GuardRosterLaw", "feed", "(LGuardRoster;C[J)I"⟩
abbrev cL_execute : ByteArray := method_36_code
def yL_execute : MethodName := ⟨"GuardRosterLaw", "execute", "(LGuardRoster;[J)I"⟩
abbrev cL_errorPosition : ByteArray := method_37_code
def yL_errorPosition : MethodName := ⟨"GuardRosterLaw", "errorPosition", "(LGuardRoster;[J)I"⟩
abbrev cL_failedCommand : ByteArray := method_38_code
def yL_failedCommand : MethodName := ⟨"GuardRosterLaw", "failedCommand", "(LGuardRoster;[J)I"⟩
abbrev cL_undo : ByteArray := method_39_code
def yL_undo : MethodName := ⟨"GuardRosterLaw", "undo", "(LGuardRoster;[J)I"⟩
abbrev cL_restore : ByteArray := method_40_code
def yL_restore : MethodName := ⟨"GuardRosterLaw", "restore", "(LGuardRoster;[J)I"⟩
theorem ddX0_init_0 : decode cX0_init 0 = .ok (.aload_n 0, 1) := by decide +kernel
theorem ddX0_init_1 : decode cX0_init 1 = .ok (.invokespecial 3, 3) := by decide +kernel
theorem ddX0_init_4 : decode cX0_init 4 = .ok (.aload_n 0, 1) := by decide +kernel
theorem ddX0_init_5 : decode cX0_init 5 = .ok (.bipush 60, 2) := by decide +kernel
theorem ddX0_init_7 : decode cX0_init 7 = .ok (.newarray .char, 2) := by decide +kernel
theorem ddX0_init_9 : decode cX0_init 9 = .ok (.putfield 9, 3) := by decide +kernel
theorem ddX0_init_12 : decode cX0_init 12 = .ok (.aload_n 0, 1) := by decide +kernel
theorem ddX0_init_13 : decode cX0_init 13 = .ok (.bipush 9, 2) := by decide +kernel
theorem ddX0_init_15 : decode cX0_init 15 = .ok (.newarray .int, 2) := by decide +kernel
theorem ddX0_init_17 : decode cX0_init 17 = .ok (.putfield 15, 3) := by decide +kernel
theorem ddX0_init_20 : decode cX0_init 20 = .ok (.aload_n 0, 1) := by decide +kernel
theorem ddX0_init_21 : decode cX0_init 21 = .ok (.bipush 27, 2) := by decide +kernel
theorem ddX0_init_23 : decode cX0_init 23 = .ok (.newarray .int, 2) := by decide +kernel
theorem ddX0_init_25 : decode cX0_init 25 = .ok (.putfield 19, 3) := by decide +kernel
theorem ddX0_init_28 : decode cX0_init 28 = .ok (.return_, 1) := by decide +kernel
theorem ddX0_isFull_0 : decode cX0_isFull 0 = .ok (.aload_n 0, 1) := by decide +kernel
theorem ddX0_isFull_1 : decode cX0_isFull 1 = .ok (.getfield 22, 3) := by decide +kernel
theorem ddX0_isFull_4 : decode cX0_isFull 4 = .ok (.bipush 60, 2) := by decide +kernel
theorem ddX0_isFull_6 : decode cX0_isFull 6 = .ok (.if_icmp .lt 7, 3) := by decide +kernel
theorem ddX0_isFull_9 : decode cX0_isFull 9 = .ok (.iconst 1, 1) := by decide +kernel
theorem ddX0_isFull_10 : decode cX0_isFull 10 = .ok (.goto 4, 3) := by decide +kernel
theorem ddX0_isFull_13 : decode cX0_isFull 13 = .ok (.iconst 0, 1) := by decide +kernel
theorem ddX0_isFull_14 : decode cX0_isFull 14 = .ok (.ireturn, 1) := by decide +kernel
theorem ddX0_append_0 : decode cX0_append 0 = .ok (.aload_n 0, 1) := by decide +kernel
theorem ddX0_append_1 : decode cX0_append 1 = .ok (.getfield 22, 3) := by decide +kernel
theorem ddX0_append_4 : decode cX0_append 4 = .ok (.ifCond .lt 32, 3) := by decide +kernel
theorem ddX0_append_7 : decode cX0_append 7 = .ok (.aload_n 0, 1) := by decide +kernel
theorem ddX0_append_8 : decode cX0_append 8 = .ok (.getfield 22, 3) := by decide +kernel
theorem ddX0_append_11 : decode cX0_append 11 = .ok (.bipush 60, 2) := by decide +kernel
theorem ddX0_append_13 : decode cX0_append 13 = .ok (.if_icmp .ge 23, 3) := by decide +kernel
theorem ddX0_append_16 : decode cX0_append 16 = .ok (.aload_n 0, 1) := by decide +kernel
theorem ddX0_append_17 : decode cX0_append 17 = .ok (.getfield 9, 3) := by decide +kernel
theorem ddX0_append_20 : decode cX0_append 20 = .ok (.aload_n 0, 1) := by decide +kernel
theorem ddX0_append_21 : decode cX0_append 21 = .ok (.getfield 22, 3) := by decide +kernel
theorem ddX0_append_24 : decode cX0_append 24 = .ok (.iload_n 1, 1) := by decide +kernel
theorem ddX0_append_25 : decode cX0_append 25 = .ok (.castore, 1) := by decide +kernel
theorem ddX0_append_26 : decode cX0_append 26 = .ok (.aload_n 0, 1) := by decide +kernel
theorem ddX0_append_27 : decode cX0_append 27 = .ok (.dup, 1) := by decide +kernel
theorem ddX0_append_28 : decode cX0_append 28 = .ok (.getfield 22, 3) := by decide +kernel
theorem ddX0_append_31 : decode cX0_append 31 = .ok (.iconst 1, 1) := by decide +kernel
theorem ddX0_append_32 : decode cX0_append 32 = .ok (.iadd, 1) := by decide +kernel
theorem ddX0_append_33 : decode cX0_append 33 = .ok (.putfield 22, 3) := by decide +kernel
theorem ddX0_append_36 : decode cX0_append 36 = .ok (.aload_n 0, 1) := by decide +kernel
theorem ddX0_append_37 : decode cX0_append 37 = .ok (.getfield 22, 3) := by decide +kernel
theorem ddX0_append_40 : decode cX0_append 40 = .ok (.ireturn, 1) := by decide +kernel
theorem ddX0_empty_0 : decode cX0_empty 0 = .ok (.aload_n 0, 1) := by decide +kernel
theorem ddX0_empty_1 : decode cX0_empty 1 = .ok (.iconst 0, 1) := by decide +kernel
theorem ddX0_empty_2 : decode cX0_empty 2 = .ok (.putfield 22, 3) := by decide +kernel
theorem ddX0_empty_5 : decode cX0_empty 5 = .ok (.return_, 1) := by decide +kernel
theorem ddX0_commands_0 : decode cX0_commands 0 = .ok (.aload_n 0, 1) := by decide +kernel
theorem ddX0_commands_1 : decode cX0_commands 1 = .ok (.getfield 26, 3) := by decide +kernel
theorem ddX0_commands_4 : decode cX0_commands 4 = .ok (.ireturn, 1) := by decide +kernel
theorem ddX0_firstWrong_0 : decode cX0_firstWrong 0 = .ok (.aload_n 0, 1) := by decide +kernel
theorem ddX0_firstWrong_1 : decode cX0_firstWrong 1 = .ok (.getfield 29, 3) := by decide +kernel
theorem ddX0_firstWrong_4 : decode cX0_firstWrong 4 = .ok (.ireturn, 1) := by decide +kernel
theorem ddX0_kind_0 : decode cX0_kind 0 = .ok (.iload_n 1, 1) := by decide +kernel
theorem ddX0_kind_1 : decode cX0_kind 1 = .ok (.ifCond .lt 18, 3) := by decide +kernel
theorem ddX0_kind_4 : decode cX0_kind 4 = .ok (.iload_n 1, 1) := by decide +kernel
theorem ddX0_kind_5 : decode cX0_kind 5 = .ok (.bipush 9, 2) := by decide +kernel
theorem ddX0_kind_7 : decode cX0_kind 7 = .ok (.if_icmp .ge 12, 3) := by decide +kernel
theorem ddX0_kind_10 : decode cX0_kind 10 = .ok (.aload_n 0, 1) := by decide +kernel
theorem ddX0_kind_11 : decode cX0_kind 11 = .ok (.getfield 15, 3) := by decide +kernel
theorem ddX0_kind_14 : decode cX0_kind 14 = .ok (.iload_n 1, 1) := by decide +kernel
theorem ddX0_kind_15 : decode cX0_kind 15 = .ok (.iaload, 1) := by decide +kernel
theorem ddX0_kind_16 : decode cX0_kind 16 = .ok (.goto 4, 3) := by decide +kernel
theorem ddX0_kind_19 : decode cX0_kind 19 = .ok (.iconst (-1), 1) := by decide +kernel
theorem ddX0_kind_20 : decode cX0_kind 20 = .ok (.ireturn, 1) := by decide +kernel
theorem ddX0_value_0 : decode cX0_value 0 = .ok (.iload_n 1, 1) := by decide +kernel
theorem ddX0_value_1 : decode cX0_value 1 = .ok (.iconst 3, 1) := by decide +kernel
theorem ddX0_value_2 : decode cX0_value 2 = .ok (.imul, 1) := by decide +kernel
theorem ddX0_value_3 : decode cX0_value 3 = .ok (.iload_n 2, 1) := by decide +kernel
theorem ddX0_value_4 : decode cX0_value 4 = .ok (.iadd, 1) := by decide +kernel
theorem ddX0_value_5 : decode cX0_value 5 = .ok (.istore_n 3, 1) := by decide +kernel
theorem ddX0_value_6 : decode cX0_value 6 = .ok (.iload_n 3, 1) := by decide +kernel
theorem ddX0_value_7 : decode cX0_value 7 = .ok (.ifCond .lt 21, 3) := by decide +kernel
theorem ddX0_value_10 : decode cX0_value 10 = .ok (.iload_n 3, 1) := by decide +kernel
theorem ddX0_value_11 : decode cX0_value 11 = .ok (.aload_n 0, 1) := by decide +kernel
theorem ddX0_value_12 : decode cX0_value 12 = .ok (.getfield 19, 3) := by decide +kernel
theorem ddX0_value_15 : decode cX0_value 15 = .ok (.arraylength, 1) := by decide +kernel
theorem ddX0_value_16 : decode cX0_value 16 = .ok (.if_icmp .ge 12, 3) := by decide +kernel
theorem ddX0_value_19 : decode cX0_value 19 = .ok (.aload_n 0, 1) := by decide +kernel
theorem ddX0_value_20 : decode cX0_value 20 = .ok (.getfield 19, 3) := by decide +kernel
theorem ddX0_value_23 : decode cX0_value 23 = .ok (.iload_n 3, 1) := by decide +kernel
theorem ddX0_value_24 : decode cX0_value 24 = .ok (.iaload, 1) := by decide +kernel
theorem ddX0_value_25 : decode cX0_value 25 = .ok (.goto 4, 3) := by decide +kernel
theorem ddX0_value_28 : decode cX0_value 28 = .ok (.iconst 0, 1) := by decide +kernel
theorem ddX0_value_29 : decode cX0_value 29 = .ok (.ireturn, 1) := by decide +kernel
theorem ddX0_parse_0 : decode cX0_parse 0 = .ok (.aload_n 0, 1) := by decide +kernel
theorem ddX0_parse_1 : decode cX0_parse 1 = .ok (.iconst 0, 1) := by decide +kernel
theorem ddX0_parse_2 : decode cX0_parse 2 = .ok (.putfield 26, 3) := by decide +kernel
theorem ddX0_parse_5 : decode cX0_parse 5 = .ok (.iconst 0, 1) := by decide +kernel
theorem ddX0_parse_6 : decode cX0_parse 6 = .ok (.istore_n 1, 1) := by decide +kernel
theorem ddX0_parse_7 : decode cX0_parse 7 = .ok (.aload_n 0, 1) := by decide +kernel
theorem ddX0_parse_8 : decode cX0_parse 8 = .ok (.getfield 26, 3) := by decide +kernel
theorem ddX0_parse_11 : decode cX0_parse 11 = .ok (.bipush 9, 2) := by decide +kernel
theorem ddX0_parse_13 : decode cX0_parse 13 = .ok (.if_icmp .ge 59, 3) := by decide +kernel
theorem ddX0_parse_16 : decode cX0_parse 16 = .ok (.aload_n 0, 1) := by decide +kernel
theorem ddX0_parse_17 : decode cX0_parse 17 = .ok (.iload_n 1, 1) := by decide +kernel
theorem ddX0_parse_18 : decode cX0_parse 18 = .ok (.invokevirtual 32, 3) := by decide +kernel
theorem ddX0_parse_21 : decode cX0_parse 21 = .ok (.istore_n 2, 1) := by decide +kernel
theorem ddX0_parse_22 : decode cX0_parse 22 = .ok (.iload_n 2, 1) := by decide +kernel
theorem ddX0_parse_23 : decode cX0_parse 23 = .ok (.iconst (-1), 1) := by decide +kernel
theorem ddX0_parse_24 : decode cX0_parse 24 = .ok (.if_icmp .ne 5, 3) := by decide +kernel
theorem ddX0_parse_27 : decode cX0_parse 27 = .ok (.iconst 0, 1) := by decide +kernel
theorem ddX0_parse_28 : decode cX0_parse 28 = .ok (.ireturn, 1) := by decide +kernel
theorem ddX0_parse_29 : decode cX0_parse 29 = .ok (.aload_n 0, 1) := by decide +kernel
theorem ddX0_parse_30 : decode cX0_parse 30 = .ok (.dup, 1) := by decide +kernel
theorem ddX0_parse_31 : decode cX0_parse 31 = .ok (.getfield 26, 3) := by decide +kernel
theorem ddX0_parse_34 : decode cX0_parse 34 = .ok (.iconst 1, 1) := by decide +kernel
theorem ddX0_parse_35 : decode cX0_parse 35 = .ok (.iadd, 1) := by decide +kernel
theorem ddX0_parse_36 : decode cX0_parse 36 = .ok (.putfield 26, 3) := by decide +kernel
theorem ddX0_parse_39 : decode cX0_parse 39 = .ok (.aload_n 0, 1) := by decide +kernel
theorem ddX0_parse_40 : decode cX0_parse 40 = .ok (.iload_n 2, 1) := by decide +kernel
theorem ddX0_parse_41 : decode cX0_parse 41 = .ok (.invokevirtual 36, 3) := by decide +kernel
theorem ddX0_parse_44 : decode cX0_parse 44 = .ok (.istore_n 3, 1) := by decide +kernel
theorem ddX0_parse_45 : decode cX0_parse 45 = .ok (.iload_n 3, 1) := by decide +kernel
theorem ddX0_parse_46 : decode cX0_parse 46 = .ok (.iconst (-1), 1) := by decide +kernel
theorem ddX0_parse_47 : decode cX0_parse 47 = .ok (.if_icmp .ne 5, 3) := by decide +kernel
theorem ddX0_parse_50 : decode cX0_parse 50 = .ok (.iconst 1, 1) := by decide +kernel
theorem ddX0_parse_51 : decode cX0_parse 51 = .ok (.ireturn, 1) := by decide +kernel
theorem ddX0_parse_52 : decode cX0_parse 52 = .ok (.iload_n 3, 1) := by decide +kernel
theorem ddX0_parse_53 : decode cX0_parse 53 = .ok (.bipush 59, 2) := by decide +kernel
theorem ddX0_parse_55 : decode cX0_parse 55 = .ok (.if_icmp .eq 10, 3) := by decide +kernel
theorem ddX0_parse_58 : decode cX0_parse 58 = .ok (.aload_n 0, 1) := by decide +kernel
theorem ddX0_parse_59 : decode cX0_parse 59 = .ok (.iload_n 2, 1) := by decide +kernel
theorem ddX0_parse_60 : decode cX0_parse 60 = .ok (.putfield 29, 3) := by decide +kernel
theorem ddX0_parse_63 : decode cX0_parse 63 = .ok (.iconst 0, 1) := by decide +kernel
theorem ddX0_parse_64 : decode cX0_parse 64 = .ok (.ireturn, 1) := by decide +kernel
theorem ddX0_parse_65 : decode cX0_parse 65 = .ok (.iload_n 2, 1) := by decide +kernel
theorem ddX0_parse_66 : decode cX0_parse 66 = .ok (.iconst 1, 1) := by decide +kernel
theorem ddX0_parse_67 : decode cX0_parse 67 = .ok (.iadd, 1) := by decide +kernel
theorem ddX0_parse_68 : decode cX0_parse 68 = .ok (.istore_n 1, 1) := by decide +kernel
theorem ddX0_parse_69 : decode cX0_parse 69 = .ok (.goto (-62), 3) := by decide +kernel
theorem ddX0_parse_72 : decode cX0_parse 72 = .ok (.aload_n 0, 1) := by decide +kernel
theorem ddX0_parse_73 : decode cX0_parse 73 = .ok (.iload_n 1, 1) := by decide +kernel
theorem ddX0_parse_74 : decode cX0_parse 74 = .ok (.putfield 29, 3) := by decide +kernel
theorem ddX0_parse_77 : decode cX0_parse 77 = .ok (.iconst 0, 1) := by decide +kernel
theorem ddX0_parse_78 : decode cX0_parse 78 = .ok (.ireturn, 1) := by decide +kernel
theorem ddX0_readCommand_0 : decode cX0_readCommand 0 = .ok (.iload_n 1, 1) := by decide +kernel
theorem ddX0_readCommand_1 : decode cX0_readCommand 1 = .ok (.istore_n 2, 1) := by decide +kernel
theorem ddX0_readCommand_2 : decode cX0_readCommand 2 = .ok (.iconst 0, 1) := by decide +kernel
theorem ddX0_readCommand_3 : decode cX0_readCommand 3 = .ok (.istore_n 3, 1) := by decide +kernel
theorem ddX0_readCommand_4 : decode cX0_readCommand 4 = .ok (.iload_n 3, 1) := by decide +kernel
theorem ddX0_readCommand_5 : decode cX0_readCommand 5 = .ok (.bipush 8, 2) := by decide +kernel
theorem ddX0_readCommand_7 : decode cX0_readCommand 7 = .ok (.if_icmp .ge 64, 3) := by decide +kernel
theorem ddX0_readCommand_10 : decode cX0_readCommand 10 = .ok (.aload_n 0, 1) := by decide +kernel
theorem ddX0_readCommand_11 : decode cX0_readCommand 11 = .ok (.iload_n 3, 1) := by decide +kernel
theorem ddX0_readCommand_12 : decode cX0_readCommand 12 = .ok (.invokestatic 39, 3) := by decide +kernel
theorem ddX0_readCommand_15 : decode cX0_readCommand 15 = .ok (.iload_n 1, 1) := by decide +kernel
theorem ddX0_readCommand_16 : decode cX0_readCommand 16 = .ok (.invokevirtual 43, 3) := by decide +kernel
theorem ddX0_readCommand_19 : decode cX0_readCommand 19 = .ok (.istore 4, 2) := by decide +kernel
theorem ddX0_readCommand_21 : decode cX0_readCommand 21 = .ok (.iload 4, 2) := by decide +kernel
theorem ddX0_readCommand_23 : decode cX0_readCommand 23 = .ok (.iconst (-1), 1) := by decide +kernel
theorem ddX0_readCommand_24 : decode cX0_readCommand 24 = .ok (.if_icmp .eq 32, 3) := by decide +kernel
theorem ddX0_readCommand_27 : decode cX0_readCommand 27 = .ok (.aload_n 0, 1) := by decide +kernel
theorem ddX0_readCommand_28 : decode cX0_readCommand 28 = .ok (.getfield 26, 3) := by decide +kernel
theorem ddX0_readCommand_31 : decode cX0_readCommand 31 = .ok (.ifCond .lt 22, 3) := by decide +kernel
theorem ddX0_readCommand_34 : decode cX0_readCommand 34 = .ok (.aload_n 0, 1) := by decide +kernel
theorem ddX0_readCommand_35 : decode cX0_readCommand 35 = .ok (.getfield 26, 3) := by decide +kernel
theorem ddX0_readCommand_38 : decode cX0_readCommand 38 = .ok (.bipush 9, 2) := by decide +kernel
theorem ddX0_readCommand_40 : decode cX0_readCommand 40 = .ok (.if_icmp .ge 13, 3) := by decide +kernel
theorem ddX0_readCommand_43 : decode cX0_readCommand 43 = .ok (.aload_n 0, 1) := by decide +kernel
theorem ddX0_readCommand_44 : decode cX0_readCommand 44 = .ok (.getfield 15, 3) := by decide +kernel
theorem ddX0_readCommand_47 : decode cX0_readCommand 47 = .ok (.aload_n 0, 1) := by decide +kernel
theorem ddX0_readCommand_48 : decode cX0_readCommand 48 = .ok (.getfield 26, 3) := by decide +kernel
theorem ddX0_readCommand_51 : decode cX0_readCommand 51 = .ok (.iload_n 3, 1) := by decide +kernel
theorem ddX0_readCommand_52 : decode cX0_readCommand 52 = .ok (.iastore, 1) := by decide +kernel
theorem ddX0_readCommand_53 : decode cX0_readCommand 53 = .ok (.iload 4, 2) := by decide +kernel
theorem ddX0_readCommand_55 : decode cX0_readCommand 55 = .ok (.ireturn, 1) := by decide +kernel
theorem ddX0_readCommand_56 : decode cX0_readCommand 56 = .ok (.iload_n 2, 1) := by decide +kernel
theorem ddX0_readCommand_57 : decode cX0_readCommand 57 = .ok (.aload_n 0, 1) := by decide +kernel
theorem ddX0_readCommand_58 : decode cX0_readCommand 58 = .ok (.getfield 29, 3) := by decide +kernel
theorem ddX0_readCommand_61 : decode cX0_readCommand 61 = .ok (.invokestatic 47, 3) := by decide +kernel
theorem ddX0_readCommand_64 : decode cX0_readCommand 64 = .ok (.istore_n 2, 1) := by decide +kernel
theorem ddX0_readCommand_65 : decode cX0_readCommand 65 = .ok (.iinc 3 1, 3) := by decide +kernel
theorem ddX0_readCommand_68 : decode cX0_readCommand 68 = .ok (.goto (-64), 3) := by decide +kernel
theorem ddX0_readCommand_71 : decode cX0_readCommand 71 = .ok (.aload_n 0, 1) := by decide +kernel
theorem ddX0_readCommand_72 : decode cX0_readCommand 72 = .ok (.iload_n 2, 1) := by decide +kernel
theorem ddX0_readCommand_73 : decode cX0_readCommand 73 = .ok (.putfield 29, 3) := by decide +kernel
theorem ddX0_readCommand_76 : decode cX0_readCommand 76 = .ok (.iconst (-1), 1) := by decide +kernel
theorem ddX0_readCommand_77 : decode cX0_readCommand 77 = .ok (.ireturn, 1) := by decide +kernel
theorem ddX0_shapeOf_0 : decode cX0_shapeOf 0 = .ok (.iload_n 0, 1) := by decide +kernel
theorem ddX0_shapeOf_1 : decode cX0_shapeOf 1 = .ok (.tableswitch 64 0 6 #[43, 46, 49, 52, 55, 58, 61], 43) := by decide +kernel
theorem ddX0_shapeOf_44 : decode cX0_shapeOf 44 = .ok (.ldc 53, 2) := by decide +kernel
theorem ddX0_shapeOf_46 : decode cX0_shapeOf 46 = .ok (.areturn, 1) := by decide +kernel
theorem ddX0_shapeOf_47 : decode cX0_shapeOf 47 = .ok (.ldc 55, 2) := by decide +kernel
theorem ddX0_shapeOf_49 : decode cX0_shapeOf 49 = .ok (.areturn, 1) := by decide +kernel
theorem ddX0_shapeOf_50 : decode cX0_shapeOf 50 = .ok (.ldc 57, 2) := by decide +kernel
theorem ddX0_shapeOf_52 : decode cX0_shapeOf 52 = .ok (.areturn, 1) := by decide +kernel
theorem ddX0_shapeOf_53 : decode cX0_shapeOf 53 = .ok (.ldc 59, 2) := by decide +kernel
theorem ddX0_shapeOf_55 : decode cX0_shapeOf 55 = .ok (.areturn, 1) := by decide +kernel
theorem ddX0_shapeOf_56 : decode cX0_shapeOf 56 = .ok (.ldc 61, 2) := by decide +kernel
theorem ddX0_shapeOf_58 : decode cX0_shapeOf 58 = .ok (.areturn, 1) := by decide +kernel
theorem ddX0_shapeOf_59 : decode cX0_shapeOf 59 = .ok (.ldc 63, 2) := by decide +kernel
theorem ddX0_shapeOf_61 : decode cX0_shapeOf 61 = .ok (.areturn, 1) := by decide +kernel
theorem ddX0_shapeOf_62 : decode cX0_shapeOf 62 = .ok (.ldc 65, 2) := by decide +kernel
theorem ddX0_shapeOf_64 : decode cX0_shapeOf 64 = .ok (.areturn, 1) := by decide +kernel
theorem ddX0_shapeOf_65 : decode cX0_shapeOf 65 = .ok (.ldc 67, 2) := by decide +kernel
theorem ddX0_shapeOf_67 : decode cX0_shapeOf 67 = .ok (.areturn, 1) := by decide +kernel
theorem ddX0_readShape_0 : decode cX0_readShape 0 = .ok (.iload_n 2, 1) := by decide +kernel
theorem ddX0_readShape_1 : decode cX0_readShape 1 = .ok (.istore_n 3, 1) := by decide +kernel
theorem ddX0_readShape_2 : decode cX0_readShape 2 = .ok (.iconst 0, 1) := by decide +kernel
theorem ddX0_readShape_3 : decode cX0_readShape 3 = .ok (.istore 4, 2) := by decide +kernel
theorem ddX0_readShape_5 : decode cX0_readShape 5 = .ok (.iconst 0, 1) := by decide +kernel
theorem ddX0_readShape_6 : decode cX0_readShape 6 = .ok (.istore 5, 2) := by decide +kernel
theorem ddX0_readShape_8 : decode cX0_readShape 8 = .ok (.iload 5, 2) := by decide +kernel
theorem ddX0_readShape_10 : decode cX0_readShape 10 = .ok (.aload_n 1, 1) := by decide +kernel
theorem ddX0_readShape_11 : decode cX0_readShape 11 = .ok (.invokevirtual 69, 3) := by decide +kernel
theorem ddX0_readShape_14 : decode cX0_readShape 14 = .ok (.if_icmp .ge 139, 3) := by decide +kernel
theorem ddX0_readShape_17 : decode cX0_readShape 17 = .ok (.aload_n 1, 1) := by decide +kernel
theorem ddX0_readShape_18 : decode cX0_readShape 18 = .ok (.iload 5, 2) := by decide +kernel
theorem ddX0_readShape_20 : decode cX0_readShape 20 = .ok (.invokevirtual 74, 3) := by decide +kernel
theorem ddX0_readShape_23 : decode cX0_readShape 23 = .ok (.istore 6, 2) := by decide +kernel
theorem ddX0_readShape_25 : decode cX0_readShape 25 = .ok (.aload_n 0, 1) := by decide +kernel
theorem ddX0_readShape_26 : decode cX0_readShape 26 = .ok (.iload_n 3, 1) := by decide +kernel
theorem ddX0_readShape_27 : decode cX0_readShape 27 = .ok (.invokevirtual 36, 3) := by decide +kernel
theorem ddX0_readShape_30 : decode cX0_readShape 30 = .ok (.istore 7, 2) := by decide +kernel
theorem ddX0_readShape_32 : decode cX0_readShape 32 = .ok (.iload 6, 2) := by decide +kernel
theorem ddX0_readShape_34 : decode cX0_readShape 34 = .ok (.bipush 35, 2) := by decide +kernel
theorem ddX0_readShape_36 : decode cX0_readShape 36 = .ok (.if_icmp .eq 10, 3) := by decide +kernel
theorem ddX0_readShape_39 : decode cX0_readShape 39 = .ok (.iload 6, 2) := by decide +kernel
theorem ddX0_readShape_41 : decode cX0_readShape 41 = .ok (.bipush 37, 2) := by decide +kernel
theorem ddX0_readShape_43 : decode cX0_readShape 43 = .ok (.if_icmp .ne 7, 3) := by decide +kernel
theorem ddX0_readShape_46 : decode cX0_readShape 46 = .ok (.iconst 1, 1) := by decide +kernel
theorem ddX0_readShape_47 : decode cX0_readShape 47 = .ok (.goto 4, 3) := by decide +kernel
theorem ddX0_readShape_50 : decode cX0_readShape 50 = .ok (.iconst 0, 1) := by decide +kernel
theorem ddX0_readShape_51 : decode cX0_readShape 51 = .ok (.istore 8, 2) := by decide +kernel
theorem ddX0_readShape_53 : decode cX0_readShape 53 = .ok (.iload 8, 2) := by decide +kernel
theorem ddX0_readShape_55 : decode cX0_readShape 55 = .ok (.ifCond .eq 14, 3) := by decide +kernel
theorem ddX0_readShape_58 : decode cX0_readShape 58 = .ok (.iload 7, 2) := by decide +kernel
theorem ddX0_readShape_60 : decode cX0_readShape 60 = .ok (.invokestatic 78, 3) := by decide +kernel
theorem ddX0_readShape_63 : decode cX0_readShape 63 = .ok (.ifCond .ne 20, 3) := by decide +kernel
theorem ddX0_readShape_66 : decode cX0_readShape 66 = .ok (.goto 10, 3) := by decide +kernel
theorem ddX0_readShape_69 : decode cX0_readShape 69 = .ok (.iload 7, 2) := by decide +kernel
theorem ddX0_readShape_71 : decode cX0_readShape 71 = .ok (.iload 6, 2) := by decide +kernel
theorem ddX0_readShape_73 : decode cX0_readShape 73 = .ok (.if_icmp .eq 10, 3) := by decide +kernel
theorem ddX0_readShape_76 : decode cX0_readShape 76 = .ok (.aload_n 0, 1) := by decide +kernel
theorem ddX0_readShape_77 : decode cX0_readShape 77 = .ok (.iload_n 3, 1) := by decide +kernel
theorem ddX0_readShape_78 : decode cX0_readShape 78 = .ok (.putfield 29, 3) := by decide +kernel
theorem ddX0_readShape_81 : decode cX0_readShape 81 = .ok (.iconst (-1), 1) := by decide +kernel
theorem ddX0_readShape_82 : decode cX0_readShape 82 = .ok (.ireturn, 1) := by decide +kernel
theorem ddX0_readShape_83 : decode cX0_readShape 83 = .ok (.iinc 3 1, 3) := by decide +kernel
theorem ddX0_readShape_86 : decode cX0_readShape 86 = .ok (.iload 8, 2) := by decide +kernel
theorem ddX0_readShape_88 : decode cX0_readShape 88 = .ok (.ifCond .eq 59, 3) := by decide +kernel
theorem ddX0_readShape_91 : decode cX0_readShape 91 = .ok (.iload 7, 2) := by decide +kernel
theorem ddX0_readShape_93 : decode cX0_readShape 93 = .ok (.bipush 48, 2) := by decide +kernel
theorem ddX0_readShape_95 : decode cX0_readShape 95 = .ok (.isub, 1) := by decide +kernel
theorem ddX0_readShape_96 : decode cX0_readShape 96 = .ok (.istore 9, 2) := by decide +kernel
theorem ddX0_readShape_98 : decode cX0_readShape 98 = .ok (.aload_n 0, 1) := by decide +kernel
theorem ddX0_readShape_99 : decode cX0_readShape 99 = .ok (.iload_n 3, 1) := by decide +kernel
theorem ddX0_readShape_100 : decode cX0_readShape 100 = .ok (.invokevirtual 36, 3) := by decide +kernel
theorem ddX0_readShape_103 : decode cX0_readShape 103 = .ok (.istore 10, 2) := by decide +kernel
theorem ddX0_readShape_105 : decode cX0_readShape 105 = .ok (.iload 6, 2) := by decide +kernel
theorem ddX0_readShape_107 : decode cX0_readShape 107 = .ok (.bipush 37, 2) := by decide +kernel
theorem ddX0_readShape_109 : decode cX0_readShape 109 = .ok (.if_icmp .ne 27, 3) := by decide +kernel
theorem ddX0_readShape_112 : decode cX0_readShape 112 = .ok (.iload 10, 2) := by decide +kernel
theorem ddX0_readShape_114 : decode cX0_readShape 114 = .ok (.invokestatic 78, 3) := by decide +kernel
theorem ddX0_readShape_117 : decode cX0_readShape 117 = .ok (.ifCond .eq 19, 3) := by decide +kernel
theorem ddX0_readShape_120 : decode cX0_readShape 120 = .ok (.iload 9, 2) := by decide +kernel
theorem ddX0_readShape_122 : decode cX0_readShape 122 = .ok (.bipush 10, 2) := by decide +kernel
theorem ddX0_readShape_124 : decode cX0_readShape 124 = .ok (.imul, 1) := by decide +kernel
theorem ddX0_readShape_125 : decode cX0_readShape 125 = .ok (.iload 10, 2) := by decide +kernel
theorem ddX0_readShape_127 : decode cX0_readShape 127 = .ok (.iadd, 1) := by decide +kernel
theorem ddX0_readShape_128 : decode cX0_readShape 128 = .ok (.bipush 48, 2) := by decide +kernel
theorem ddX0_readShape_130 : decode cX0_readShape 130 = .ok (.isub, 1) := by decide +kernel
theorem ddX0_readShape_131 : decode cX0_readShape 131 = .ok (.istore 9, 2) := by decide +kernel
theorem ddX0_readShape_133 : decode cX0_readShape 133 = .ok (.iinc 3 1, 3) := by decide +kernel
theorem ddX0_readShape_136 : decode cX0_readShape 136 = .ok (.aload_n 0, 1) := by decide +kernel
theorem ddX0_readShape_137 : decode cX0_readShape 137 = .ok (.iload 4, 2) := by decide +kernel
theorem ddX0_readShape_139 : decode cX0_readShape 139 = .ok (.iload 9, 2) := by decide +kernel
theorem ddX0_readShape_141 : decode cX0_readShape 141 = .ok (.invokevirtual 82, 3) := by decide +kernel
theorem ddX0_readShape_144 : decode cX0_readShape 144 = .ok (.iinc 4 1, 3) := by decide +kernel
theorem ddX0_readShape_147 : decode cX0_readShape 147 = .ok (.iinc 5 1, 3) := by decide +kernel
theorem ddX0_readShape_150 : decode cX0_readShape 150 = .ok (.goto (-142), 3) := by decide +kernel
theorem ddX0_readShape_153 : decode cX0_readShape 153 = .ok (.iload_n 3, 1) := by decide +kernel
theorem ddX0_readShape_154 : decode cX0_readShape 154 = .ok (.ireturn, 1) := by decide +kernel
theorem ddX0_keepValue_0 : decode cX0_keepValue 0 = .ok (.aload_n 0, 1) := by decide +kernel
theorem ddX0_keepValue_1 : decode cX0_keepValue 1 = .ok (.getfield 26, 3) := by decide +kernel
theorem ddX0_keepValue_4 : decode cX0_keepValue 4 = .ok (.iconst 3, 1) := by decide +kernel
theorem ddX0_keepValue_5 : decode cX0_keepValue 5 = .ok (.imul, 1) := by decide +kernel
theorem ddX0_keepValue_6 : decode cX0_keepValue 6 = .ok (.iload_n 1, 1) := by decide +kernel
theorem ddX0_keepValue_7 : decode cX0_keepValue 7 = .ok (.iadd, 1) := by decide +kernel
theorem ddX0_keepValue_8 : decode cX0_keepValue 8 = .ok (.istore_n 3, 1) := by decide +kernel
theorem ddX0_keepValue_9 : decode cX0_keepValue 9 = .ok (.iload_n 3, 1) := by decide +kernel
theorem ddX0_keepValue_10 : decode cX0_keepValue 10 = .ok (.ifCond .lt 19, 3) := by decide +kernel
theorem ddX0_keepValue_13 : decode cX0_keepValue 13 = .ok (.iload_n 3, 1) := by decide +kernel
theorem ddX0_keepValue_14 : decode cX0_keepValue 14 = .ok (.aload_n 0, 1) := by decide +kernel
theorem ddX0_keepValue_15 : decode cX0_keepValue 15 = .ok (.getfield 19, 3) := by decide +kernel
theorem ddX0_keepValue_18 : decode cX0_keepValue 18 = .ok (.arraylength, 1) := by decide +kernel
theorem ddX0_keepValue_19 : decode cX0_keepValue 19 = .ok (.if_icmp .ge 10, 3) := by decide +kernel
theorem ddX0_keepValue_22 : decode cX0_keepValue 22 = .ok (.aload_n 0, 1) := by decide +kernel
theorem ddX0_keepValue_23 : decode cX0_keepValue 23 = .ok (.getfield 19, 3) := by decide +kernel
theorem ddX0_keepValue_26 : decode cX0_keepValue 26 = .ok (.iload_n 3, 1) := by decide +kernel
theorem ddX0_keepValue_27 : decode cX0_keepValue 27 = .ok (.iload_n 2, 1) := by decide +kernel
theorem ddX0_keepValue_28 : decode cX0_keepValue 28 = .ok (.iastore, 1) := by decide +kernel
theorem ddX0_keepValue_29 : decode cX0_keepValue 29 = .ok (.return_, 1) := by decide +kernel
theorem ddX0_characterAt_0 : decode cX0_characterAt 0 = .ok (.iload_n 1, 1) := by decide +kernel
theorem ddX0_characterAt_1 : decode cX0_characterAt 1 = .ok (.ifCond .lt 26, 3) := by decide +kernel
theorem ddX0_characterAt_4 : decode cX0_characterAt 4 = .ok (.iload_n 1, 1) := by decide +kernel
theorem ddX0_characterAt_5 : decode cX0_characterAt 5 = .ok (.aload_n 0, 1) := by decide +kernel
theorem ddX0_characterAt_6 : decode cX0_characterAt 6 = .ok (.getfield 22, 3) := by decide +kernel
theorem ddX0_characterAt_9 : decode cX0_characterAt 9 = .ok (.if_icmp .ge 18, 3) := by decide +kernel
theorem ddX0_characterAt_12 : decode cX0_characterAt 12 = .ok (.iload_n 1, 1) := by decide +kernel
theorem ddX0_characterAt_13 : decode cX0_characterAt 13 = .ok (.bipush 60, 2) := by decide +kernel
theorem ddX0_characterAt_15 : decode cX0_characterAt 15 = .ok (.if_icmp .ge 12, 3) := by decide +kernel
theorem ddX0_characterAt_18 : decode cX0_characterAt 18 = .ok (.aload_n 0, 1) := by decide +kernel
theorem ddX0_characterAt_19 : decode cX0_characterAt 19 = .ok (.getfield 9, 3) := by decide +kernel
theorem ddX0_characterAt_22 : decode cX0_characterAt 22 = .ok (.iload_n 1, 1) := by decide +kernel
theorem ddX0_characterAt_23 : decode cX0_characterAt 23 = .ok (.caload, 1) := by decide +kernel
theorem ddX0_characterAt_24 : decode cX0_characterAt 24 = .ok (.goto 4, 3) := by decide +kernel
theorem ddX0_characterAt_27 : decode cX0_characterAt 27 = .ok (.iconst (-1), 1) := by decide +kernel
theorem ddX0_characterAt_28 : decode cX0_characterAt 28 = .ok (.ireturn, 1) := by decide +kernel
theorem ddX0_isDigit_0 : decode cX0_isDigit 0 = .ok (.iload_n 0, 1) := by decide +kernel
theorem ddX0_isDigit_1 : decode cX0_isDigit 1 = .ok (.bipush 48, 2) := by decide +kernel
theorem ddX0_isDigit_3 : decode cX0_isDigit 3 = .ok (.if_icmp .lt 13, 3) := by decide +kernel
theorem ddX0_isDigit_6 : decode cX0_isDigit 6 = .ok (.iload_n 0, 1) := by decide +kernel
theorem ddX0_isDigit_7 : decode cX0_isDigit 7 = .ok (.bipush 57, 2) := by decide +kernel
theorem ddX0_isDigit_9 : decode cX0_isDigit 9 = .ok (.if_icmp .gt 7, 3) := by decide +kernel
theorem ddX0_isDigit_12 : decode cX0_isDigit 12 = .ok (.iconst 1, 1) := by decide +kernel
theorem ddX0_isDigit_13 : decode cX0_isDigit 13 = .ok (.goto 4, 3) := by decide +kernel
theorem ddX0_isDigit_16 : decode cX0_isDigit 16 = .ok (.iconst 0, 1) := by decide +kernel
theorem ddX0_isDigit_17 : decode cX0_isDigit 17 = .ok (.ireturn, 1) := by decide +kernel
theorem ddX1_init_0 : decode cX1_init 0 = .ok (.aload_n 0, 1) := by decide +kernel
theorem ddX1_init_1 : decode cX1_init 1 = .ok (.invokespecial 3, 3) := by decide +kernel
theorem ddX1_init_4 : decode cX1_init 4 = .ok (.aload_n 0, 1) := by decide +kernel
theorem ddX1_init_5 : decode cX1_init 5 = .ok (.bipush 9, 2) := by decide +kernel
theorem ddX1_init_7 : decode cX1_init 7 = .ok (.sipush 179, 3) := by decide +kernel
theorem ddX1_init_10 : decode cX1_init 10 = .ok (.multianewarray 13 2, 4) := by decide +kernel
theorem ddX1_init_14 : decode cX1_init 14 = .ok (.putfield 15, 3) := by decide +kernel
theorem ddX1_init_17 : decode cX1_init 17 = .ok (.return_, 1) := by decide +kernel
theorem ddX1_size_0 : decode cX1_size 0 = .ok (.aload_n 0, 1) := by decide +kernel
theorem ddX1_size_1 : decode cX1_size 1 = .ok (.getfield 18, 3) := by decide +kernel
theorem ddX1_size_4 : decode cX1_size 4 = .ok (.ireturn, 1) := by decide +kernel
theorem ddX1_keep_0 : decode cX1_keep 0 = .ok (.aload_n 0, 1) := by decide +kernel
theorem ddX1_keep_1 : decode cX1_keep 1 = .ok (.aload_n 1, 1) := by decide +kernel
theorem ddX1_keep_2 : decode cX1_keep 2 = .ok (.invokevirtual 22, 3) := by decide +kernel
theorem ddX1_keep_5 : decode cX1_keep 5 = .ok (.aload_n 0, 1) := by decide +kernel
theorem ddX1_keep_6 : decode cX1_keep 6 = .ok (.invokevirtual 26, 3) := by decide +kernel
theorem ddX1_keep_9 : decode cX1_keep 9 = .ok (.return_, 1) := by decide +kernel
theorem ddX1_begin_0 : decode cX1_begin 0 = .ok (.aload_n 0, 1) := by decide +kernel
theorem ddX1_begin_1 : decode cX1_begin 1 = .ok (.getfield 29, 3) := by decide +kernel
theorem ddX1_begin_4 : decode cX1_begin 4 = .ok (.ifCond .lt 25, 3) := by decide +kernel
theorem ddX1_begin_7 : decode cX1_begin 7 = .ok (.aload_n 0, 1) := by decide +kernel
theorem ddX1_begin_8 : decode cX1_begin 8 = .ok (.getfield 29, 3) := by decide +kernel
theorem ddX1_begin_11 : decode cX1_begin 11 = .ok (.bipush 9, 2) := by decide +kernel
theorem ddX1_begin_13 : decode cX1_begin 13 = .ok (.if_icmp .ge 16, 3) := by decide +kernel
theorem ddX1_begin_16 : decode cX1_begin 16 = .ok (.aload_n 1, 1) := by decide +kernel
theorem ddX1_begin_17 : decode cX1_begin 17 = .ok (.aload_n 0, 1) := by decide +kernel
theorem ddX1_begin_18 : decode cX1_begin 18 = .ok (.getfield 15, 3) := by decide +kernel
theorem ddX1_begin_21 : decode cX1_begin 21 = .ok (.aload_n 0, 1) := by decide +kernel
theorem ddX1_begin_22 : decode cX1_begin 22 = .ok (.getfield 29, 3) := by decide +kernel
theorem ddX1_begin_25 : decode cX1_begin 25 = .ok (.aaload, 1) := by decide +kernel
theorem ddX1_begin_26 : decode cX1_begin 26 = .ok (.invokevirtual 32, 3) := by decide +kernel
theorem ddX1_begin_29 : decode cX1_begin 29 = .ok (.return_, 1) := by decide +kernel
theorem ddX1_end_0 : decode cX1_end 0 = .ok (.aload_n 0, 1) := by decide +kernel
theorem ddX1_end_1 : decode cX1_end 1 = .ok (.aload_n 0, 1) := by decide +kernel
theorem ddX1_end_2 : decode cX1_end 2 = .ok (.getfield 29, 3) := by decide +kernel
theorem ddX1_end_5 : decode cX1_end 5 = .ok (.iconst 1, 1) := by decide +kernel
theorem ddX1_end_6 : decode cX1_end 6 = .ok (.iadd, 1) := by decide +kernel
theorem ddX1_end_7 : decode cX1_end 7 = .ok (.bipush 9, 2) := by decide +kernel
theorem ddX1_end_9 : decode cX1_end 9 = .ok (.if_icmp .ge 12, 3) := by decide +kernel
theorem ddX1_end_12 : decode cX1_end 12 = .ok (.aload_n 0, 1) := by decide +kernel
theorem ddX1_end_13 : decode cX1_end 13 = .ok (.getfield 29, 3) := by decide +kernel
theorem ddX1_end_16 : decode cX1_end 16 = .ok (.iconst 1, 1) := by decide +kernel
theorem ddX1_end_17 : decode cX1_end 17 = .ok (.iadd, 1) := by decide +kernel
theorem ddX1_end_18 : decode cX1_end 18 = .ok (.goto 4, 3) := by decide +kernel
theorem ddX1_end_21 : decode cX1_end 21 = .ok (.iconst 0, 1) := by decide +kernel
theorem ddX1_end_22 : decode cX1_end 22 = .ok (.putfield 29, 3) := by decide +kernel
theorem ddX1_end_25 : decode cX1_end 25 = .ok (.aload_n 0, 1) := by decide +kernel
theorem ddX1_end_26 : decode cX1_end 26 = .ok (.bipush 8, 2) := by decide +kernel
theorem ddX1_end_28 : decode cX1_end 28 = .ok (.aload_n 0, 1) := by decide +kernel
theorem ddX1_end_29 : decode cX1_end 29 = .ok (.getfield 18, 3) := by decide +kernel
theorem ddX1_end_32 : decode cX1_end 32 = .ok (.iconst 1, 1) := by decide +kernel
theorem ddX1_end_33 : decode cX1_end 33 = .ok (.iadd, 1) := by decide +kernel
theorem ddX1_end_34 : decode cX1_end 34 = .ok (.invokestatic 36, 3) := by decide +kernel
theorem ddX1_end_37 : decode cX1_end 37 = .ok (.putfield 18, 3) := by decide +kernel
theorem ddX1_end_40 : decode cX1_end 40 = .ok (.return_, 1) := by decide +kernel
theorem ddX1_backOut_0 : decode cX1_backOut 0 = .ok (.aload_n 0, 1) := by decide +kernel
theorem ddX1_backOut_1 : decode cX1_backOut 1 = .ok (.getfield 29, 3) := by decide +kernel
theorem ddX1_backOut_4 : decode cX1_backOut 4 = .ok (.ifCond .lt 25, 3) := by decide +kernel
theorem ddX1_backOut_7 : decode cX1_backOut 7 = .ok (.aload_n 0, 1) := by decide +kernel
theorem ddX1_backOut_8 : decode cX1_backOut 8 = .ok (.getfield 29, 3) := by decide +kernel
theorem ddX1_backOut_11 : decode cX1_backOut 11 = .ok (.bipush 9, 2) := by decide +kernel
theorem ddX1_backOut_13 : decode cX1_backOut 13 = .ok (.if_icmp .ge 16, 3) := by decide +kernel
theorem ddX1_backOut_16 : decode cX1_backOut 16 = .ok (.aload_n 1, 1) := by decide +kernel
theorem ddX1_backOut_17 : decode cX1_backOut 17 = .ok (.aload_n 0, 1) := by decide +kernel
theorem ddX1_backOut_18 : decode cX1_backOut 18 = .ok (.getfield 15, 3) := by decide +kernel
theorem ddX1_backOut_21 : decode cX1_backOut 21 = .ok (.aload_n 0, 1) := by decide +kernel
theorem ddX1_backOut_22 : decode cX1_backOut 22 = .ok (.getfield 29, 3) := by decide +kernel
theorem ddX1_backOut_25 : decode cX1_backOut 25 = .ok (.aaload, 1) := by decide +kernel
theorem ddX1_backOut_26 : decode cX1_backOut 26 = .ok (.invokevirtual 42, 3) := by decide +kernel
theorem ddX1_backOut_29 : decode cX1_backOut 29 = .ok (.return_, 1) := by decide +kernel
theorem ddX1_takeBack_0 : decode cX1_takeBack 0 = .ok (.aload_n 0, 1) := by decide +kernel
theorem ddX1_takeBack_1 : decode cX1_takeBack 1 = .ok (.getfield 18, 3) := by decide +kernel
theorem ddX1_takeBack_4 : decode cX1_takeBack 4 = .ok (.ifCond .le 40, 3) := by decide +kernel
theorem ddX1_takeBack_7 : decode cX1_takeBack 7 = .ok (.aload_n 0, 1) := by decide +kernel
theorem ddX1_takeBack_8 : decode cX1_takeBack 8 = .ok (.dup, 1) := by decide +kernel
theorem ddX1_takeBack_9 : decode cX1_takeBack 9 = .ok (.getfield 18, 3) := by decide +kernel
theorem ddX1_takeBack_12 : decode cX1_takeBack 12 = .ok (.iconst 1, 1) := by decide +kernel
theorem ddX1_takeBack_13 : decode cX1_takeBack 13 = .ok (.isub, 1) := by decide +kernel
theorem ddX1_takeBack_14 : decode cX1_takeBack 14 = .ok (.putfield 18, 3) := by decide +kernel
theorem ddX1_takeBack_17 : decode cX1_takeBack 17 = .ok (.aload_n 0, 1) := by decide +kernel
theorem ddX1_takeBack_18 : decode cX1_takeBack 18 = .ok (.aload_n 0, 1) := by decide +kernel
theorem ddX1_takeBack_19 : decode cX1_takeBack 19 = .ok (.getfield 29, 3) := by decide +kernel
theorem ddX1_takeBack_22 : decode cX1_takeBack 22 = .ok (.ifCond .le 12, 3) := by decide +kernel
theorem ddX1_takeBack_25 : decode cX1_takeBack 25 = .ok (.aload_n 0, 1) := by decide +kernel
theorem ddX1_takeBack_26 : decode cX1_takeBack 26 = .ok (.getfield 29, 3) := by decide +kernel
theorem ddX1_takeBack_29 : decode cX1_takeBack 29 = .ok (.iconst 1, 1) := by decide +kernel
theorem ddX1_takeBack_30 : decode cX1_takeBack 30 = .ok (.isub, 1) := by decide +kernel
theorem ddX1_takeBack_31 : decode cX1_takeBack 31 = .ok (.goto 5, 3) := by decide +kernel
theorem ddX1_takeBack_34 : decode cX1_takeBack 34 = .ok (.bipush 8, 2) := by decide +kernel
theorem ddX1_takeBack_36 : decode cX1_takeBack 36 = .ok (.putfield 29, 3) := by decide +kernel
theorem ddX1_takeBack_39 : decode cX1_takeBack 39 = .ok (.aload_n 0, 1) := by decide +kernel
theorem ddX1_takeBack_40 : decode cX1_takeBack 40 = .ok (.aload_n 1, 1) := by decide +kernel
theorem ddX1_takeBack_41 : decode cX1_takeBack 41 = .ok (.invokevirtual 45, 3) := by decide +kernel
theorem ddX1_takeBack_44 : decode cX1_takeBack 44 = .ok (.return_, 1) := by decide +kernel
theorem ddX1_forget_0 : decode cX1_forget 0 = .ok (.aload_n 0, 1) := by decide +kernel
theorem ddX1_forget_1 : decode cX1_forget 1 = .ok (.iconst 0, 1) := by decide +kernel
theorem ddX1_forget_2 : decode cX1_forget 2 = .ok (.putfield 18, 3) := by decide +kernel
theorem ddX1_forget_5 : decode cX1_forget 5 = .ok (.return_, 1) := by decide +kernel
theorem ddX2_init_0 : decode cX2_init 0 = .ok (.aload_n 0, 1) := by decide +kernel
theorem ddX2_init_1 : decode cX2_init 1 = .ok (.invokespecial 5, 3) := by decide +kernel
theorem ddX2_init_4 : decode cX2_init 4 = .ok (.aload_n 0, 1) := by decide +kernel
theorem ddX2_init_5 : decode cX2_init 5 = .ok (.sipush 179, 3) := by decide +kernel
theorem ddX2_init_8 : decode cX2_init 8 = .ok (.newarray .int, 2) := by decide +kernel
theorem ddX2_init_10 : decode cX2_init 10 = .ok (.putfield 11, 3) := by decide +kernel
theorem ddX2_init_13 : decode cX2_init 13 = .ok (.aload_n 0, 1) := by decide +kernel
theorem ddX2_init_14 : decode cX2_init 14 = .ok (.bipush 10, 2) := by decide +kernel
theorem ddX2_init_16 : decode cX2_init 16 = .ok (.newarray .int, 2) := by decide +kernel
theorem ddX2_init_18 : decode cX2_init 18 = .ok (.putfield 15, 3) := by decide +kernel
theorem ddX2_init_21 : decode cX2_init 21 = .ok (.aload_n 0, 1) := by decide +kernel
theorem ddX2_init_22 : decode cX2_init 22 = .ok (.getfield 11, 3) := by decide +kernel
theorem ddX2_init_25 : decode cX2_init 25 = .ok (.iconst 2, 1) := by decide +kernel
theorem ddX2_init_26 : decode cX2_init 26 = .ok (.bipush 20, 2) := by decide +kernel
theorem ddX2_init_28 : decode cX2_init 28 = .ok (.iastore, 1) := by decide +kernel
theorem ddX2_init_29 : decode cX2_init 29 = .ok (.return_, 1) := by decide +kernel
theorem ddX2_copyTo_0 : decode cX2_copyTo 0 = .ok (.aload_n 1, 1) := by decide +kernel
theorem ddX2_copyTo_1 : decode cX2_copyTo 1 = .ok (.ifnull 24, 3) := by decide +kernel
theorem ddX2_copyTo_4 : decode cX2_copyTo 4 = .ok (.aload_n 1, 1) := by decide +kernel
theorem ddX2_copyTo_5 : decode cX2_copyTo 5 = .ok (.arraylength, 1) := by decide +kernel
theorem ddX2_copyTo_6 : decode cX2_copyTo 6 = .ok (.sipush 179, 3) := by decide +kernel
theorem ddX2_copyTo_9 : decode cX2_copyTo 9 = .ok (.if_icmp .ne 16, 3) := by decide +kernel
theorem ddX2_copyTo_12 : decode cX2_copyTo 12 = .ok (.aload_n 0, 1) := by decide +kernel
theorem ddX2_copyTo_13 : decode cX2_copyTo 13 = .ok (.getfield 11, 3) := by decide +kernel
theorem ddX2_copyTo_16 : decode cX2_copyTo 16 = .ok (.iconst 0, 1) := by decide +kernel
theorem ddX2_copyTo_17 : decode cX2_copyTo 17 = .ok (.aload_n 1, 1) := by decide +kernel
theorem ddX2_copyTo_18 : decode cX2_copyTo 18 = .ok (.iconst 0, 1) := by decide +kernel
theorem ddX2_copyTo_19 : decode cX2_copyTo 19 = .ok (.sipush 179, 3) := by decide +kernel
theorem ddX2_copyTo_22 : decode cX2_copyTo 22 = .ok (.invokestatic 18, 3) := by decide +kernel
theorem ddX2_copyTo_25 : decode cX2_copyTo 25 = .ok (.return_, 1) := by decide +kernel
theorem ddX2_copyFrom_0 : decode cX2_copyFrom 0 = .ok (.aload_n 1, 1) := by decide +kernel
theorem ddX2_copyFrom_1 : decode cX2_copyFrom 1 = .ok (.ifnull 24, 3) := by decide +kernel
theorem ddX2_copyFrom_4 : decode cX2_copyFrom 4 = .ok (.aload_n 1, 1) := by decide +kernel
theorem ddX2_copyFrom_5 : decode cX2_copyFrom 5 = .ok (.arraylength, 1) := by decide +kernel
theorem ddX2_copyFrom_6 : decode cX2_copyFrom 6 = .ok (.sipush 179, 3) := by decide +kernel
theorem ddX2_copyFrom_9 : decode cX2_copyFrom 9 = .ok (.if_icmp .ne 16, 3) := by decide +kernel
theorem ddX2_copyFrom_12 : decode cX2_copyFrom 12 = .ok (.aload_n 1, 1) := by decide +kernel
theorem ddX2_copyFrom_13 : decode cX2_copyFrom 13 = .ok (.iconst 0, 1) := by decide +kernel
theorem ddX2_copyFrom_14 : decode cX2_copyFrom 14 = .ok (.aload_n 0, 1) := by decide +kernel
theorem ddX2_copyFrom_15 : decode cX2_copyFrom 15 = .ok (.getfield 11, 3) := by decide +kernel
theorem ddX2_copyFrom_18 : decode cX2_copyFrom 18 = .ok (.iconst 0, 1) := by decide +kernel
theorem ddX2_copyFrom_19 : decode cX2_copyFrom 19 = .ok (.sipush 179, 3) := by decide +kernel
theorem ddX2_copyFrom_22 : decode cX2_copyFrom 22 = .ok (.invokestatic 18, 3) := by decide +kernel
theorem ddX2_copyFrom_25 : decode cX2_copyFrom 25 = .ok (.return_, 1) := by decide +kernel
theorem ddX2_gates_0 : decode cX2_gates 0 = .ok (.aload_n 0, 1) := by decide +kernel
theorem ddX2_gates_1 : decode cX2_gates 1 = .ok (.getfield 11, 3) := by decide +kernel
theorem ddX2_gates_4 : decode cX2_gates 4 = .ok (.iconst 0, 1) := by decide +kernel
theorem ddX2_gates_5 : decode cX2_gates 5 = .ok (.iaload, 1) := by decide +kernel
theorem ddX2_gates_6 : decode cX2_gates 6 = .ok (.ireturn, 1) := by decide +kernel
theorem ddX2_guards_0 : decode cX2_guards 0 = .ok (.aload_n 0, 1) := by decide +kernel
theorem ddX2_guards_1 : decode cX2_guards 1 = .ok (.getfield 11, 3) := by decide +kernel
theorem ddX2_guards_4 : decode cX2_guards 4 = .ok (.iconst 1, 1) := by decide +kernel
theorem ddX2_guards_5 : decode cX2_guards 5 = .ok (.iaload, 1) := by decide +kernel
theorem ddX2_guards_6 : decode cX2_guards 6 = .ok (.ireturn, 1) := by decide +kernel
theorem ddX2_rationsLeft_0 : decode cX2_rationsLeft 0 = .ok (.aload_n 0, 1) := by decide +kernel
theorem ddX2_rationsLeft_1 : decode cX2_rationsLeft 1 = .ok (.getfield 11, 3) := by decide +kernel
theorem ddX2_rationsLeft_4 : decode cX2_rationsLeft 4 = .ok (.iconst 2, 1) := by decide +kernel
theorem ddX2_rationsLeft_5 : decode cX2_rationsLeft 5 = .ok (.iaload, 1) := by decide +kernel
theorem ddX2_rationsLeft_6 : decode cX2_rationsLeft 6 = .ok (.ireturn, 1) := by decide +kernel
theorem ddX2_now_0 : decode cX2_now 0 = .ok (.aload_n 0, 1) := by decide +kernel
theorem ddX2_now_1 : decode cX2_now 1 = .ok (.getfield 11, 3) := by decide +kernel
theorem ddX2_now_4 : decode cX2_now 4 = .ok (.iconst 3, 1) := by decide +kernel
theorem ddX2_now_5 : decode cX2_now 5 = .ok (.iaload, 1) := by decide +kernel
theorem ddX2_now_6 : decode cX2_now 6 = .ok (.ireturn, 1) := by decide +kernel
theorem ddX2_isGate_0 : decode cX2_isGate 0 = .ok (.iload_n 1, 1) := by decide +kernel
theorem ddX2_isGate_1 : decode cX2_isGate 1 = .ok (.ifCond .lt 22, 3) := by decide +kernel
theorem ddX2_isGate_4 : decode cX2_isGate 4 = .ok (.iload_n 1, 1) := by decide +kernel
theorem ddX2_isGate_5 : decode cX2_isGate 5 = .ok (.iconst 5, 1) := by decide +kernel
theorem ddX2_isGate_6 : decode cX2_isGate 6 = .ok (.if_icmp .ge 17, 3) := by decide +kernel
theorem ddX2_isGate_9 : decode cX2_isGate 9 = .ok (.iload_n 1, 1) := by decide +kernel
theorem ddX2_isGate_10 : decode cX2_isGate 10 = .ok (.aload_n 0, 1) := by decide +kernel
theorem ddX2_isGate_11 : decode cX2_isGate 11 = .ok (.getfield 11, 3) := by decide +kernel
theorem ddX2_isGate_14 : decode cX2_isGate 14 = .ok (.iconst 0, 1) := by decide +kernel
theorem ddX2_isGate_15 : decode cX2_isGate 15 = .ok (.iaload, 1) := by decide +kernel
theorem ddX2_isGate_16 : decode cX2_isGate 16 = .ok (.if_icmp .ge 7, 3) := by decide +kernel
theorem ddX2_isGate_19 : decode cX2_isGate 19 = .ok (.iconst 1, 1) := by decide +kernel
theorem ddX2_isGate_20 : decode cX2_isGate 20 = .ok (.goto 4, 3) := by decide +kernel
theorem ddX2_isGate_23 : decode cX2_isGate 23 = .ok (.iconst 0, 1) := by decide +kernel
theorem ddX2_isGate_24 : decode cX2_isGate 24 = .ok (.ireturn, 1) := by decide +kernel
theorem ddX2_isGuard_0 : decode cX2_isGuard 0 = .ok (.iload_n 1, 1) := by decide +kernel
theorem ddX2_isGuard_1 : decode cX2_isGuard 1 = .ok (.ifCond .lt 23, 3) := by decide +kernel
theorem ddX2_isGuard_4 : decode cX2_isGuard 4 = .ok (.iload_n 1, 1) := by decide +kernel
theorem ddX2_isGuard_5 : decode cX2_isGuard 5 = .ok (.bipush 10, 2) := by decide +kernel
theorem ddX2_isGuard_7 : decode cX2_isGuard 7 = .ok (.if_icmp .ge 17, 3) := by decide +kernel
theorem ddX2_isGuard_10 : decode cX2_isGuard 10 = .ok (.iload_n 1, 1) := by decide +kernel
theorem ddX2_isGuard_11 : decode cX2_isGuard 11 = .ok (.aload_n 0, 1) := by decide +kernel
theorem ddX2_isGuard_12 : decode cX2_isGuard 12 = .ok (.getfield 11, 3) := by decide +kernel
theorem ddX2_isGuard_15 : decode cX2_isGuard 15 = .ok (.iconst 1, 1) := by decide +kernel
theorem ddX2_isGuard_16 : decode cX2_isGuard 16 = .ok (.iaload, 1) := by decide +kernel
theorem ddX2_isGuard_17 : decode cX2_isGuard 17 = .ok (.if_icmp .ge 7, 3) := by decide +kernel
theorem ddX2_isGuard_20 : decode cX2_isGuard 20 = .ok (.iconst 1, 1) := by decide +kernel
theorem ddX2_isGuard_21 : decode cX2_isGuard 21 = .ok (.goto 4, 3) := by decide +kernel
theorem ddX2_isGuard_24 : decode cX2_isGuard 24 = .ok (.iconst 0, 1) := by decide +kernel
theorem ddX2_isGuard_25 : decode cX2_isGuard 25 = .ok (.ireturn, 1) := by decide +kernel
theorem ddX2_isSlot_0 : decode cX2_isSlot 0 = .ok (.iload_n 1, 1) := by decide +kernel
theorem ddX2_isSlot_1 : decode cX2_isSlot 1 = .ok (.ifCond .lt 13, 3) := by decide +kernel
theorem ddX2_isSlot_4 : decode cX2_isSlot 4 = .ok (.iload_n 1, 1) := by decide +kernel
theorem ddX2_isSlot_5 : decode cX2_isSlot 5 = .ok (.bipush 28, 2) := by decide +kernel
theorem ddX2_isSlot_7 : decode cX2_isSlot 7 = .ok (.if_icmp .ge 7, 3) := by decide +kernel
theorem ddX2_isSlot_10 : decode cX2_isSlot 10 = .ok (.iconst 1, 1) := by decide +kernel
theorem ddX2_isSlot_11 : decode cX2_isSlot 11 = .ok (.goto 4, 3) := by decide +kernel
theorem ddX2_isSlot_14 : decode cX2_isSlot 14 = .ok (.iconst 0, 1) := by decide +kernel
theorem ddX2_isSlot_15 : decode cX2_isSlot 15 = .ok (.ireturn, 1) := by decide +kernel
theorem ddX2_hasPassed_0 : decode cX2_hasPassed 0 = .ok (.iload_n 1, 1) := by decide +kernel
theorem ddX2_hasPassed_1 : decode cX2_hasPassed 1 = .ok (.aload_n 0, 1) := by decide +kernel
theorem ddX2_hasPassed_2 : decode cX2_hasPassed 2 = .ok (.getfield 11, 3) := by decide +kernel
theorem ddX2_hasPassed_5 : decode cX2_hasPassed 5 = .ok (.iconst 3, 1) := by decide +kernel
theorem ddX2_hasPassed_6 : decode cX2_hasPassed 6 = .ok (.iaload, 1) := by decide +kernel
theorem ddX2_hasPassed_7 : decode cX2_hasPassed 7 = .ok (.if_icmp .ge 7, 3) := by decide +kernel
theorem ddX2_hasPassed_10 : decode cX2_hasPassed 10 = .ok (.iconst 1, 1) := by decide +kernel
theorem ddX2_hasPassed_11 : decode cX2_hasPassed 11 = .ok (.goto 4, 3) := by decide +kernel
theorem ddX2_hasPassed_14 : decode cX2_hasPassed 14 = .ok (.iconst 0, 1) := by decide +kernel
theorem ddX2_hasPassed_15 : decode cX2_hasPassed 15 = .ok (.ireturn, 1) := by decide +kernel
theorem ddX2_rankNeededAt_0 : decode cX2_rankNeededAt 0 = .ok (.aload_n 0, 1) := by decide +kernel
theorem ddX2_rankNeededAt_1 : decode cX2_rankNeededAt 1 = .ok (.iload_n 1, 1) := by decide +kernel
theorem ddX2_rankNeededAt_2 : decode cX2_rankNeededAt 2 = .ok (.invokevirtual 24, 3) := by decide +kernel
theorem ddX2_rankNeededAt_5 : decode cX2_rankNeededAt 5 = .ok (.ifCond .eq 14, 3) := by decide +kernel
theorem ddX2_rankNeededAt_8 : decode cX2_rankNeededAt 8 = .ok (.aload_n 0, 1) := by decide +kernel
theorem ddX2_rankNeededAt_9 : decode cX2_rankNeededAt 9 = .ok (.getfield 11, 3) := by decide +kernel
theorem ddX2_rankNeededAt_12 : decode cX2_rankNeededAt 12 = .ok (.iconst 4, 1) := by decide +kernel
theorem ddX2_rankNeededAt_13 : decode cX2_rankNeededAt 13 = .ok (.iload_n 1, 1) := by decide +kernel
theorem ddX2_rankNeededAt_14 : decode cX2_rankNeededAt 14 = .ok (.iadd, 1) := by decide +kernel
theorem ddX2_rankNeededAt_15 : decode cX2_rankNeededAt 15 = .ok (.iaload, 1) := by decide +kernel
theorem ddX2_rankNeededAt_16 : decode cX2_rankNeededAt 16 = .ok (.goto 4, 3) := by decide +kernel
theorem ddX2_rankNeededAt_19 : decode cX2_rankNeededAt 19 = .ok (.iconst 0, 1) := by decide +kernel
theorem ddX2_rankNeededAt_20 : decode cX2_rankNeededAt 20 = .ok (.ireturn, 1) := by decide +kernel
theorem ddX2_rankOf_0 : decode cX2_rankOf 0 = .ok (.aload_n 0, 1) := by decide +kernel
theorem ddX2_rankOf_1 : decode cX2_rankOf 1 = .ok (.iload_n 1, 1) := by decide +kernel
theorem ddX2_rankOf_2 : decode cX2_rankOf 2 = .ok (.invokevirtual 28, 3) := by decide +kernel
theorem ddX2_rankOf_5 : decode cX2_rankOf 5 = .ok (.ifCond .eq 15, 3) := by decide +kernel
theorem ddX2_rankOf_8 : decode cX2_rankOf 8 = .ok (.aload_n 0, 1) := by decide +kernel
theorem ddX2_rankOf_9 : decode cX2_rankOf 9 = .ok (.getfield 11, 3) := by decide +kernel
theorem ddX2_rankOf_12 : decode cX2_rankOf 12 = .ok (.bipush 9, 2) := by decide +kernel
theorem ddX2_rankOf_14 : decode cX2_rankOf 14 = .ok (.iload_n 1, 1) := by decide +kernel
theorem ddX2_rankOf_15 : decode cX2_rankOf 15 = .ok (.iadd, 1) := by decide +kernel
theorem ddX2_rankOf_16 : decode cX2_rankOf 16 = .ok (.iaload, 1) := by decide +kernel
theorem ddX2_rankOf_17 : decode cX2_rankOf 17 = .ok (.goto 4, 3) := by decide +kernel
theorem ddX2_rankOf_20 : decode cX2_rankOf 20 = .ok (.iconst 0, 1) := by decide +kernel
theorem ddX2_rankOf_21 : decode cX2_rankOf 21 = .ok (.ireturn, 1) := by decide +kernel
theorem ddX2_faintsOf_0 : decode cX2_faintsOf 0 = .ok (.aload_n 0, 1) := by decide +kernel
theorem ddX2_faintsOf_1 : decode cX2_faintsOf 1 = .ok (.iload_n 1, 1) := by decide +kernel
theorem ddX2_faintsOf_2 : decode cX2_faintsOf 2 = .ok (.invokevirtual 28, 3) := by decide +kernel
theorem ddX2_faintsOf_5 : decode cX2_faintsOf 5 = .ok (.ifCond .eq 15, 3) := by decide +kernel
theorem ddX2_faintsOf_8 : decode cX2_faintsOf 8 = .ok (.aload_n 0, 1) := by decide +kernel
theorem ddX2_faintsOf_9 : decode cX2_faintsOf 9 = .ok (.getfield 11, 3) := by decide +kernel
theorem ddX2_faintsOf_12 : decode cX2_faintsOf 12 = .ok (.bipush 19, 2) := by decide +kernel
theorem ddX2_faintsOf_14 : decode cX2_faintsOf 14 = .ok (.iload_n 1, 1) := by decide +kernel
theorem ddX2_faintsOf_15 : decode cX2_faintsOf 15 = .ok (.iadd, 1) := by decide +kernel
theorem ddX2_faintsOf_16 : decode cX2_faintsOf 16 = .ok (.iaload, 1) := by decide +kernel
theorem ddX2_faintsOf_17 : decode cX2_faintsOf 17 = .ok (.goto 4, 3) := by decide +kernel
theorem ddX2_faintsOf_20 : decode cX2_faintsOf 20 = .ok (.iconst 0, 1) := by decide +kernel
theorem ddX2_faintsOf_21 : decode cX2_faintsOf 21 = .ok (.ireturn, 1) := by decide +kernel
theorem ddX2_appendGate_0 : decode cX2_appendGate 0 = .ok (.aload_n 0, 1) := by decide +kernel
theorem ddX2_appendGate_1 : decode cX2_appendGate 1 = .ok (.getfield 11, 3) := by decide +kernel
theorem ddX2_appendGate_4 : decode cX2_appendGate 4 = .ok (.iconst 0, 1) := by decide +kernel
theorem ddX2_appendGate_5 : decode cX2_appendGate 5 = .ok (.iaload, 1) := by decide +kernel
theorem ddX2_appendGate_6 : decode cX2_appendGate 6 = .ok (.istore_n 2, 1) := by decide +kernel
theorem ddX2_appendGate_7 : decode cX2_appendGate 7 = .ok (.iload_n 2, 1) := by decide +kernel
theorem ddX2_appendGate_8 : decode cX2_appendGate 8 = .ok (.ifCond .lt 26, 3) := by decide +kernel
theorem ddX2_appendGate_11 : decode cX2_appendGate 11 = .ok (.iload_n 2, 1) := by decide +kernel
theorem ddX2_appendGate_12 : decode cX2_appendGate 12 = .ok (.iconst 5, 1) := by decide +kernel
theorem ddX2_appendGate_13 : decode cX2_appendGate 13 = .ok (.if_icmp .ge 21, 3) := by decide +kernel
theorem ddX2_appendGate_16 : decode cX2_appendGate 16 = .ok (.aload_n 0, 1) := by decide +kernel
theorem ddX2_appendGate_17 : decode cX2_appendGate 17 = .ok (.getfield 11, 3) := by decide +kernel
theorem ddX2_appendGate_20 : decode cX2_appendGate 20 = .ok (.iconst 4, 1) := by decide +kernel
theorem ddX2_appendGate_21 : decode cX2_appendGate 21 = .ok (.iload_n 2, 1) := by decide +kernel
theorem ddX2_appendGate_22 : decode cX2_appendGate 22 = .ok (.iadd, 1) := by decide +kernel
theorem ddX2_appendGate_23 : decode cX2_appendGate 23 = .ok (.iload_n 1, 1) := by decide +kernel
theorem ddX2_appendGate_24 : decode cX2_appendGate 24 = .ok (.iastore, 1) := by decide +kernel
theorem ddX2_appendGate_25 : decode cX2_appendGate 25 = .ok (.aload_n 0, 1) := by decide +kernel
theorem ddX2_appendGate_26 : decode cX2_appendGate 26 = .ok (.getfield 11, 3) := by decide +kernel
theorem ddX2_appendGate_29 : decode cX2_appendGate 29 = .ok (.iconst 0, 1) := by decide +kernel
theorem ddX2_appendGate_30 : decode cX2_appendGate 30 = .ok (.iload_n 2, 1) := by decide +kernel
theorem ddX2_appendGate_31 : decode cX2_appendGate 31 = .ok (.iconst 1, 1) := by decide +kernel
theorem ddX2_appendGate_32 : decode cX2_appendGate 32 = .ok (.iadd, 1) := by decide +kernel
theorem ddX2_appendGate_33 : decode cX2_appendGate 33 = .ok (.iastore, 1) := by decide +kernel
theorem ddX2_appendGate_34 : decode cX2_appendGate 34 = .ok (.iload_n 2, 1) := by decide +kernel
theorem ddX2_appendGate_35 : decode cX2_appendGate 35 = .ok (.ireturn, 1) := by decide +kernel
theorem ddX2_appendGuard_0 : decode cX2_appendGuard 0 = .ok (.aload_n 0, 1) := by decide +kernel
theorem ddX2_appendGuard_1 : decode cX2_appendGuard 1 = .ok (.getfield 11, 3) := by decide +kernel
theorem ddX2_appendGuard_4 : decode cX2_appendGuard 4 = .ok (.iconst 1, 1) := by decide +kernel
theorem ddX2_appendGuard_5 : decode cX2_appendGuard 5 = .ok (.iaload, 1) := by decide +kernel
theorem ddX2_appendGuard_6 : decode cX2_appendGuard 6 = .ok (.istore_n 2, 1) := by decide +kernel
theorem ddX2_appendGuard_7 : decode cX2_appendGuard 7 = .ok (.iload_n 2, 1) := by decide +kernel
theorem ddX2_appendGuard_8 : decode cX2_appendGuard 8 = .ok (.ifCond .lt 28, 3) := by decide +kernel
theorem ddX2_appendGuard_11 : decode cX2_appendGuard 11 = .ok (.iload_n 2, 1) := by decide +kernel
theorem ddX2_appendGuard_12 : decode cX2_appendGuard 12 = .ok (.bipush 10, 2) := by decide +kernel
theorem ddX2_appendGuard_14 : decode cX2_appendGuard 14 = .ok (.if_icmp .ge 22, 3) := by decide +kernel
theorem ddX2_appendGuard_17 : decode cX2_appendGuard 17 = .ok (.aload_n 0, 1) := by decide +kernel
theorem ddX2_appendGuard_18 : decode cX2_appendGuard 18 = .ok (.getfield 11, 3) := by decide +kernel
theorem ddX2_appendGuard_21 : decode cX2_appendGuard 21 = .ok (.bipush 9, 2) := by decide +kernel
theorem ddX2_appendGuard_23 : decode cX2_appendGuard 23 = .ok (.iload_n 2, 1) := by decide +kernel
theorem ddX2_appendGuard_24 : decode cX2_appendGuard 24 = .ok (.iadd, 1) := by decide +kernel
theorem ddX2_appendGuard_25 : decode cX2_appendGuard 25 = .ok (.iload_n 1, 1) := by decide +kernel
theorem ddX2_appendGuard_26 : decode cX2_appendGuard 26 = .ok (.iastore, 1) := by decide +kernel
theorem ddX2_appendGuard_27 : decode cX2_appendGuard 27 = .ok (.aload_n 0, 1) := by decide +kernel
theorem ddX2_appendGuard_28 : decode cX2_appendGuard 28 = .ok (.getfield 11, 3) := by decide +kernel
theorem ddX2_appendGuard_31 : decode cX2_appendGuard 31 = .ok (.iconst 1, 1) := by decide +kernel
theorem ddX2_appendGuard_32 : decode cX2_appendGuard 32 = .ok (.iload_n 2, 1) := by decide +kernel
theorem ddX2_appendGuard_33 : decode cX2_appendGuard 33 = .ok (.iconst 1, 1) := by decide +kernel
theorem ddX2_appendGuard_34 : decode cX2_appendGuard 34 = .ok (.iadd, 1) := by decide +kernel
theorem ddX2_appendGuard_35 : decode cX2_appendGuard 35 = .ok (.iastore, 1) := by decide +kernel
theorem ddX2_appendGuard_36 : decode cX2_appendGuard 36 = .ok (.iload_n 2, 1) := by decide +kernel
theorem ddX2_appendGuard_37 : decode cX2_appendGuard 37 = .ok (.ireturn, 1) := by decide +kernel
theorem ddX2_guardOn_0 : decode cX2_guardOn 0 = .ok (.aload_n 0, 1) := by decide +kernel
theorem ddX2_guardOn_1 : decode cX2_guardOn 1 = .ok (.iload_n 1, 1) := by decide +kernel
theorem ddX2_guardOn_2 : decode cX2_guardOn 2 = .ok (.invokevirtual 24, 3) := by decide +kernel
theorem ddX2_guardOn_5 : decode cX2_guardOn 5 = .ok (.ifCond .eq 30, 3) := by decide +kernel
theorem ddX2_guardOn_8 : decode cX2_guardOn 8 = .ok (.aload_n 0, 1) := by decide +kernel
theorem ddX2_guardOn_9 : decode cX2_guardOn 9 = .ok (.iload_n 2, 1) := by decide +kernel
theorem ddX2_guardOn_10 : decode cX2_guardOn 10 = .ok (.invokevirtual 31, 3) := by decide +kernel
theorem ddX2_guardOn_13 : decode cX2_guardOn 13 = .ok (.ifCond .eq 22, 3) := by decide +kernel
theorem ddX2_guardOn_16 : decode cX2_guardOn 16 = .ok (.aload_n 0, 1) := by decide +kernel
theorem ddX2_guardOn_17 : decode cX2_guardOn 17 = .ok (.getfield 11, 3) := by decide +kernel
theorem ddX2_guardOn_20 : decode cX2_guardOn 20 = .ok (.bipush 39, 2) := by decide +kernel
theorem ddX2_guardOn_22 : decode cX2_guardOn 22 = .ok (.iload_n 1, 1) := by decide +kernel
theorem ddX2_guardOn_23 : decode cX2_guardOn 23 = .ok (.bipush 28, 2) := by decide +kernel
theorem ddX2_guardOn_25 : decode cX2_guardOn 25 = .ok (.imul, 1) := by decide +kernel
theorem ddX2_guardOn_26 : decode cX2_guardOn 26 = .ok (.iadd, 1) := by decide +kernel
theorem ddX2_guardOn_27 : decode cX2_guardOn 27 = .ok (.iload_n 2, 1) := by decide +kernel
theorem ddX2_guardOn_28 : decode cX2_guardOn 28 = .ok (.iadd, 1) := by decide +kernel
theorem ddX2_guardOn_29 : decode cX2_guardOn 29 = .ok (.iaload, 1) := by decide +kernel
theorem ddX2_guardOn_30 : decode cX2_guardOn 30 = .ok (.iconst 1, 1) := by decide +kernel
theorem ddX2_guardOn_31 : decode cX2_guardOn 31 = .ok (.isub, 1) := by decide +kernel
theorem ddX2_guardOn_32 : decode cX2_guardOn 32 = .ok (.goto 4, 3) := by decide +kernel
theorem ddX2_guardOn_35 : decode cX2_guardOn 35 = .ok (.iconst (-1), 1) := by decide +kernel
theorem ddX2_guardOn_36 : decode cX2_guardOn 36 = .ok (.ireturn, 1) := by decide +kernel
theorem ddX2_setDuty_0 : decode cX2_setDuty 0 = .ok (.aload_n 0, 1) := by decide +kernel
theorem ddX2_setDuty_1 : decode cX2_setDuty 1 = .ok (.iload_n 1, 1) := by decide +kernel
theorem ddX2_setDuty_2 : decode cX2_setDuty 2 = .ok (.invokevirtual 24, 3) := by decide +kernel
theorem ddX2_setDuty_5 : decode cX2_setDuty 5 = .ok (.ifCond .eq 28, 3) := by decide +kernel
theorem ddX2_setDuty_8 : decode cX2_setDuty 8 = .ok (.aload_n 0, 1) := by decide +kernel
theorem ddX2_setDuty_9 : decode cX2_setDuty 9 = .ok (.iload_n 2, 1) := by decide +kernel
theorem ddX2_setDuty_10 : decode cX2_setDuty 10 = .ok (.invokevirtual 31, 3) := by decide +kernel
theorem ddX2_setDuty_13 : decode cX2_setDuty 13 = .ok (.ifCond .eq 20, 3) := by decide +kernel
theorem ddX2_setDuty_16 : decode cX2_setDuty 16 = .ok (.aload_n 0, 1) := by decide +kernel
theorem ddX2_setDuty_17 : decode cX2_setDuty 17 = .ok (.getfield 11, 3) := by decide +kernel
theorem ddX2_setDuty_20 : decode cX2_setDuty 20 = .ok (.bipush 39, 2) := by decide +kernel
theorem ddX2_setDuty_22 : decode cX2_setDuty 22 = .ok (.iload_n 1, 1) := by decide +kernel
theorem ddX2_setDuty_23 : decode cX2_setDuty 23 = .ok (.bipush 28, 2) := by decide +kernel
theorem ddX2_setDuty_25 : decode cX2_setDuty 25 = .ok (.imul, 1) := by decide +kernel
theorem ddX2_setDuty_26 : decode cX2_setDuty 26 = .ok (.iadd, 1) := by decide +kernel
theorem ddX2_setDuty_27 : decode cX2_setDuty 27 = .ok (.iload_n 2, 1) := by decide +kernel
theorem ddX2_setDuty_28 : decode cX2_setDuty 28 = .ok (.iadd, 1) := by decide +kernel
theorem ddX2_setDuty_29 : decode cX2_setDuty 29 = .ok (.iload_n 3, 1) := by decide +kernel
theorem ddX2_setDuty_30 : decode cX2_setDuty 30 = .ok (.iconst 1, 1) := by decide +kernel
theorem ddX2_setDuty_31 : decode cX2_setDuty 31 = .ok (.iadd, 1) := by decide +kernel
theorem ddX2_setDuty_32 : decode cX2_setDuty 32 = .ok (.iastore, 1) := by decide +kernel
theorem ddX2_setDuty_33 : decode cX2_setDuty 33 = .ok (.return_, 1) := by decide +kernel
theorem ddX2_gateHeld_0 : decode cX2_gateHeld 0 = .ok (.iload_n 2, 1) := by decide +kernel
theorem ddX2_gateHeld_1 : decode cX2_gateHeld 1 = .ok (.ifCond .lt 13, 3) := by decide +kernel
theorem ddX2_gateHeld_4 : decode cX2_gateHeld 4 = .ok (.iload_n 2, 1) := by decide +kernel
theorem ddX2_gateHeld_5 : decode cX2_gateHeld 5 = .ok (.bipush 28, 2) := by decide +kernel
theorem ddX2_gateHeld_7 : decode cX2_gateHeld 7 = .ok (.if_icmp .ge 7, 3) := by decide +kernel
theorem ddX2_gateHeld_10 : decode cX2_gateHeld 10 = .ok (.iload_n 1, 1) := by decide +kernel
theorem ddX2_gateHeld_11 : decode cX2_gateHeld 11 = .ok (.ifCond .ge 5, 3) := by decide +kernel
theorem ddX2_gateHeld_14 : decode cX2_gateHeld 14 = .ok (.iconst (-1), 1) := by decide +kernel
theorem ddX2_gateHeld_15 : decode cX2_gateHeld 15 = .ok (.ireturn, 1) := by decide +kernel
theorem ddX2_gateHeld_16 : decode cX2_gateHeld 16 = .ok (.iconst 0, 1) := by decide +kernel
theorem ddX2_gateHeld_17 : decode cX2_gateHeld 17 = .ok (.istore_n 3, 1) := by decide +kernel
theorem ddX2_gateHeld_18 : decode cX2_gateHeld 18 = .ok (.iload_n 3, 1) := by decide +kernel
theorem ddX2_gateHeld_19 : decode cX2_gateHeld 19 = .ok (.iconst 5, 1) := by decide +kernel
theorem ddX2_gateHeld_20 : decode cX2_gateHeld 20 = .ok (.if_icmp .ge 31, 3) := by decide +kernel
theorem ddX2_gateHeld_23 : decode cX2_gateHeld 23 = .ok (.aload_n 0, 1) := by decide +kernel
theorem ddX2_gateHeld_24 : decode cX2_gateHeld 24 = .ok (.getfield 11, 3) := by decide +kernel
theorem ddX2_gateHeld_27 : decode cX2_gateHeld 27 = .ok (.bipush 39, 2) := by decide +kernel
theorem ddX2_gateHeld_29 : decode cX2_gateHeld 29 = .ok (.iload_n 3, 1) := by decide +kernel
theorem ddX2_gateHeld_30 : decode cX2_gateHeld 30 = .ok (.bipush 28, 2) := by decide +kernel
theorem ddX2_gateHeld_32 : decode cX2_gateHeld 32 = .ok (.imul, 1) := by decide +kernel
theorem ddX2_gateHeld_33 : decode cX2_gateHeld 33 = .ok (.iadd, 1) := by decide +kernel
theorem ddX2_gateHeld_34 : decode cX2_gateHeld 34 = .ok (.iload_n 2, 1) := by decide +kernel
theorem ddX2_gateHeld_35 : decode cX2_gateHeld 35 = .ok (.iadd, 1) := by decide +kernel
theorem ddX2_gateHeld_36 : decode cX2_gateHeld 36 = .ok (.iaload, 1) := by decide +kernel
theorem ddX2_gateHeld_37 : decode cX2_gateHeld 37 = .ok (.iload_n 1, 1) := by decide +kernel
theorem ddX2_gateHeld_38 : decode cX2_gateHeld 38 = .ok (.iconst 1, 1) := by decide +kernel
theorem ddX2_gateHeld_39 : decode cX2_gateHeld 39 = .ok (.iadd, 1) := by decide +kernel
theorem ddX2_gateHeld_40 : decode cX2_gateHeld 40 = .ok (.if_icmp .ne 5, 3) := by decide +kernel
theorem ddX2_gateHeld_43 : decode cX2_gateHeld 43 = .ok (.iload_n 3, 1) := by decide +kernel
theorem ddX2_gateHeld_44 : decode cX2_gateHeld 44 = .ok (.ireturn, 1) := by decide +kernel
theorem ddX2_gateHeld_45 : decode cX2_gateHeld 45 = .ok (.iinc 3 1, 3) := by decide +kernel
theorem ddX2_gateHeld_48 : decode cX2_gateHeld 48 = .ok (.goto (-30), 3) := by decide +kernel
theorem ddX2_gateHeld_51 : decode cX2_gateHeld 51 = .ok (.iconst (-1), 1) := by decide +kernel
theorem ddX2_gateHeld_52 : decode cX2_gateHeld 52 = .ok (.ireturn, 1) := by decide +kernel
theorem ddX2_firstGateHeld_0 : decode cX2_firstGateHeld 0 = .ok (.iload_n 2, 1) := by decide +kernel
theorem ddX2_firstGateHeld_1 : decode cX2_firstGateHeld 1 = .ok (.istore 4, 2) := by decide +kernel
theorem ddX2_firstGateHeld_3 : decode cX2_firstGateHeld 3 = .ok (.iload 4, 2) := by decide +kernel
theorem ddX2_firstGateHeld_5 : decode cX2_firstGateHeld 5 = .ok (.iload_n 3, 1) := by decide +kernel
theorem ddX2_firstGateHeld_6 : decode cX2_firstGateHeld 6 = .ok (.if_icmp .gt 34, 3) := by decide +kernel
theorem ddX2_firstGateHeld_9 : decode cX2_firstGateHeld 9 = .ok (.iload 4, 2) := by decide +kernel
theorem ddX2_firstGateHeld_11 : decode cX2_firstGateHeld 11 = .ok (.bipush 28, 2) := by decide +kernel
theorem ddX2_firstGateHeld_13 : decode cX2_firstGateHeld 13 = .ok (.if_icmp .ge 27, 3) := by decide +kernel
theorem ddX2_firstGateHeld_16 : decode cX2_firstGateHeld 16 = .ok (.aload_n 0, 1) := by decide +kernel
theorem ddX2_firstGateHeld_17 : decode cX2_firstGateHeld 17 = .ok (.iload_n 1, 1) := by decide +kernel
theorem ddX2_firstGateHeld_18 : decode cX2_firstGateHeld 18 = .ok (.iload 4, 2) := by decide +kernel
theorem ddX2_firstGateHeld_20 : decode cX2_firstGateHeld 20 = .ok (.invokevirtual 34, 3) := by decide +kernel
theorem ddX2_firstGateHeld_23 : decode cX2_firstGateHeld 23 = .ok (.istore 5, 2) := by decide +kernel
theorem ddX2_firstGateHeld_25 : decode cX2_firstGateHeld 25 = .ok (.iload 5, 2) := by decide +kernel
theorem ddX2_firstGateHeld_27 : decode cX2_firstGateHeld 27 = .ok (.iconst (-1), 1) := by decide +kernel
theorem ddX2_firstGateHeld_28 : decode cX2_firstGateHeld 28 = .ok (.if_icmp .eq 6, 3) := by decide +kernel
theorem ddX2_firstGateHeld_31 : decode cX2_firstGateHeld 31 = .ok (.iload 5, 2) := by decide +kernel
theorem ddX2_firstGateHeld_33 : decode cX2_firstGateHeld 33 = .ok (.ireturn, 1) := by decide +kernel
theorem ddX2_firstGateHeld_34 : decode cX2_firstGateHeld 34 = .ok (.iinc 4 1, 3) := by decide +kernel
theorem ddX2_firstGateHeld_37 : decode cX2_firstGateHeld 37 = .ok (.goto (-34), 3) := by decide +kernel
theorem ddX2_firstGateHeld_40 : decode cX2_firstGateHeld 40 = .ok (.iconst (-1), 1) := by decide +kernel
theorem ddX2_firstGateHeld_41 : decode cX2_firstGateHeld 41 = .ok (.ireturn, 1) := by decide +kernel
theorem ddX2_dutyTotal_0 : decode cX2_dutyTotal 0 = .ok (.iconst 0, 1) := by decide +kernel
theorem ddX2_dutyTotal_1 : decode cX2_dutyTotal 1 = .ok (.istore_n 2, 1) := by decide +kernel
theorem ddX2_dutyTotal_2 : decode cX2_dutyTotal 2 = .ok (.bipush 39, 2) := by decide +kernel
theorem ddX2_dutyTotal_4 : decode cX2_dutyTotal 4 = .ok (.istore_n 3, 1) := by decide +kernel
theorem ddX2_dutyTotal_5 : decode cX2_dutyTotal 5 = .ok (.iload_n 3, 1) := by decide +kernel
theorem ddX2_dutyTotal_6 : decode cX2_dutyTotal 6 = .ok (.sipush 179, 3) := by decide +kernel
theorem ddX2_dutyTotal_9 : decode cX2_dutyTotal 9 = .ok (.if_icmp .ge 24, 3) := by decide +kernel
theorem ddX2_dutyTotal_12 : decode cX2_dutyTotal 12 = .ok (.aload_n 0, 1) := by decide +kernel
theorem ddX2_dutyTotal_13 : decode cX2_dutyTotal 13 = .ok (.getfield 11, 3) := by decide +kernel
theorem ddX2_dutyTotal_16 : decode cX2_dutyTotal 16 = .ok (.iload_n 3, 1) := by decide +kernel
theorem ddX2_dutyTotal_17 : decode cX2_dutyTotal 17 = .ok (.iaload, 1) := by decide +kernel
theorem ddX2_dutyTotal_18 : decode cX2_dutyTotal 18 = .ok (.iload_n 1, 1) := by decide +kernel
theorem ddX2_dutyTotal_19 : decode cX2_dutyTotal 19 = .ok (.iconst 1, 1) := by decide +kernel
theorem ddX2_dutyTotal_20 : decode cX2_dutyTotal 20 = .ok (.iadd, 1) := by decide +kernel
theorem ddX2_dutyTotal_21 : decode cX2_dutyTotal 21 = .ok (.if_icmp .ne 6, 3) := by decide +kernel
theorem ddX2_dutyTotal_24 : decode cX2_dutyTotal 24 = .ok (.iinc 2 1, 3) := by decide +kernel
theorem ddX2_dutyTotal_27 : decode cX2_dutyTotal 27 = .ok (.iinc 3 1, 3) := by decide +kernel
theorem ddX2_dutyTotal_30 : decode cX2_dutyTotal 30 = .ok (.goto (-25), 3) := by decide +kernel
theorem ddX2_dutyTotal_33 : decode cX2_dutyTotal 33 = .ok (.iload_n 2, 1) := by decide +kernel
theorem ddX2_dutyTotal_34 : decode cX2_dutyTotal 34 = .ok (.ireturn, 1) := by decide +kernel
theorem ddX2_allDuties_0 : decode cX2_allDuties 0 = .ok (.iconst 0, 1) := by decide +kernel
theorem ddX2_allDuties_1 : decode cX2_allDuties 1 = .ok (.istore_n 2, 1) := by decide +kernel
theorem ddX2_allDuties_2 : decode cX2_allDuties 2 = .ok (.iconst 0, 1) := by decide +kernel
theorem ddX2_allDuties_3 : decode cX2_allDuties 3 = .ok (.iload_n 1, 1) := by decide +kernel
theorem ddX2_allDuties_4 : decode cX2_allDuties 4 = .ok (.invokestatic 38, 3) := by decide +kernel
theorem ddX2_allDuties_7 : decode cX2_allDuties 7 = .ok (.istore_n 3, 1) := by decide +kernel
theorem ddX2_allDuties_8 : decode cX2_allDuties 8 = .ok (.iload_n 3, 1) := by decide +kernel
theorem ddX2_allDuties_9 : decode cX2_allDuties 9 = .ok (.bipush 28, 2) := by decide +kernel
theorem ddX2_allDuties_11 : decode cX2_allDuties 11 = .ok (.if_icmp .ge 22, 3) := by decide +kernel
theorem ddX2_allDuties_14 : decode cX2_allDuties 14 = .ok (.iload_n 2, 1) := by decide +kernel
theorem ddX2_allDuties_15 : decode cX2_allDuties 15 = .ok (.aload_n 0, 1) := by decide +kernel
theorem ddX2_allDuties_16 : decode cX2_allDuties 16 = .ok (.invokevirtual 43, 3) := by decide +kernel
theorem ddX2_allDuties_19 : decode cX2_allDuties 19 = .ok (.aload_n 0, 1) := by decide +kernel
theorem ddX2_allDuties_20 : decode cX2_allDuties 20 = .ok (.iload_n 3, 1) := by decide +kernel
theorem ddX2_allDuties_21 : decode cX2_allDuties 21 = .ok (.invokevirtual 47, 3) := by decide +kernel
theorem ddX2_allDuties_24 : decode cX2_allDuties 24 = .ok (.isub, 1) := by decide +kernel
theorem ddX2_allDuties_25 : decode cX2_allDuties 25 = .ok (.iadd, 1) := by decide +kernel
theorem ddX2_allDuties_26 : decode cX2_allDuties 26 = .ok (.istore_n 2, 1) := by decide +kernel
theorem ddX2_allDuties_27 : decode cX2_allDuties 27 = .ok (.iinc 3 1, 3) := by decide +kernel
theorem ddX2_allDuties_30 : decode cX2_allDuties 30 = .ok (.goto (-22), 3) := by decide +kernel
theorem ddX2_allDuties_33 : decode cX2_allDuties 33 = .ok (.iload_n 2, 1) := by decide +kernel
theorem ddX2_allDuties_34 : decode cX2_allDuties 34 = .ok (.ireturn, 1) := by decide +kernel
theorem ddX2_openGatesIn_0 : decode cX2_openGatesIn 0 = .ok (.iconst 0, 1) := by decide +kernel
theorem ddX2_openGatesIn_1 : decode cX2_openGatesIn 1 = .ok (.istore_n 2, 1) := by decide +kernel
theorem ddX2_openGatesIn_2 : decode cX2_openGatesIn 2 = .ok (.iconst 0, 1) := by decide +kernel
theorem ddX2_openGatesIn_3 : decode cX2_openGatesIn 3 = .ok (.istore_n 3, 1) := by decide +kernel
theorem ddX2_openGatesIn_4 : decode cX2_openGatesIn 4 = .ok (.iload_n 3, 1) := by decide +kernel
theorem ddX2_openGatesIn_5 : decode cX2_openGatesIn 5 = .ok (.aload_n 0, 1) := by decide +kernel
theorem ddX2_openGatesIn_6 : decode cX2_openGatesIn 6 = .ok (.invokevirtual 43, 3) := by decide +kernel
theorem ddX2_openGatesIn_9 : decode cX2_openGatesIn 9 = .ok (.if_icmp .ge 22, 3) := by decide +kernel
theorem ddX2_openGatesIn_12 : decode cX2_openGatesIn 12 = .ok (.aload_n 0, 1) := by decide +kernel
theorem ddX2_openGatesIn_13 : decode cX2_openGatesIn 13 = .ok (.iload_n 3, 1) := by decide +kernel
theorem ddX2_openGatesIn_14 : decode cX2_openGatesIn 14 = .ok (.iload_n 1, 1) := by decide +kernel
theorem ddX2_openGatesIn_15 : decode cX2_openGatesIn 15 = .ok (.invokevirtual 51, 3) := by decide +kernel
theorem ddX2_openGatesIn_18 : decode cX2_openGatesIn 18 = .ok (.iconst (-1), 1) := by decide +kernel
theorem ddX2_openGatesIn_19 : decode cX2_openGatesIn 19 = .ok (.if_icmp .ne 6, 3) := by decide +kernel
theorem ddX2_openGatesIn_22 : decode cX2_openGatesIn 22 = .ok (.iinc 2 1, 3) := by decide +kernel
theorem ddX2_openGatesIn_25 : decode cX2_openGatesIn 25 = .ok (.iinc 3 1, 3) := by decide +kernel
theorem ddX2_openGatesIn_28 : decode cX2_openGatesIn 28 = .ok (.goto (-24), 3) := by decide +kernel
theorem ddX2_openGatesIn_31 : decode cX2_openGatesIn 31 = .ok (.iload_n 2, 1) := by decide +kernel
theorem ddX2_openGatesIn_32 : decode cX2_openGatesIn 32 = .ok (.ireturn, 1) := by decide +kernel
theorem ddX2_openSlotsOf_0 : decode cX2_openSlotsOf 0 = .ok (.iconst 0, 1) := by decide +kernel
theorem ddX2_openSlotsOf_1 : decode cX2_openSlotsOf 1 = .ok (.istore_n 2, 1) := by decide +kernel
theorem ddX2_openSlotsOf_2 : decode cX2_openSlotsOf 2 = .ok (.aload_n 0, 1) := by decide +kernel
theorem ddX2_openSlotsOf_3 : decode cX2_openSlotsOf 3 = .ok (.invokevirtual 54, 3) := by decide +kernel
theorem ddX2_openSlotsOf_6 : decode cX2_openSlotsOf 6 = .ok (.istore_n 3, 1) := by decide +kernel
theorem ddX2_openSlotsOf_7 : decode cX2_openSlotsOf 7 = .ok (.iload_n 3, 1) := by decide +kernel
theorem ddX2_openSlotsOf_8 : decode cX2_openSlotsOf 8 = .ok (.bipush 28, 2) := by decide +kernel
theorem ddX2_openSlotsOf_10 : decode cX2_openSlotsOf 10 = .ok (.if_icmp .ge 22, 3) := by decide +kernel
theorem ddX2_openSlotsOf_13 : decode cX2_openSlotsOf 13 = .ok (.aload_n 0, 1) := by decide +kernel
theorem ddX2_openSlotsOf_14 : decode cX2_openSlotsOf 14 = .ok (.iload_n 1, 1) := by decide +kernel
theorem ddX2_openSlotsOf_15 : decode cX2_openSlotsOf 15 = .ok (.iload_n 3, 1) := by decide +kernel
theorem ddX2_openSlotsOf_16 : decode cX2_openSlotsOf 16 = .ok (.invokevirtual 51, 3) := by decide +kernel
theorem ddX2_openSlotsOf_19 : decode cX2_openSlotsOf 19 = .ok (.iconst (-1), 1) := by decide +kernel
theorem ddX2_openSlotsOf_20 : decode cX2_openSlotsOf 20 = .ok (.if_icmp .ne 6, 3) := by decide +kernel
theorem ddX2_openSlotsOf_23 : decode cX2_openSlotsOf 23 = .ok (.iinc 2 1, 3) := by decide +kernel
theorem ddX2_openSlotsOf_26 : decode cX2_openSlotsOf 26 = .ok (.iinc 3 1, 3) := by decide +kernel
theorem ddX2_openSlotsOf_29 : decode cX2_openSlotsOf 29 = .ok (.goto (-22), 3) := by decide +kernel
theorem ddX2_openSlotsOf_32 : decode cX2_openSlotsOf 32 = .ok (.iload_n 2, 1) := by decide +kernel
theorem ddX2_openSlotsOf_33 : decode cX2_openSlotsOf 33 = .ok (.ireturn, 1) := by decide +kernel
theorem ddX2_reasonAgainst_0 : decode cX2_reasonAgainst 0 = .ok (.aload_n 0, 1) := by decide +kernel
theorem ddX2_reasonAgainst_1 : decode cX2_reasonAgainst 1 = .ok (.iload_n 1, 1) := by decide +kernel
theorem ddX2_reasonAgainst_2 : decode cX2_reasonAgainst 2 = .ok (.iload_n 2, 1) := by decide +kernel
theorem ddX2_reasonAgainst_3 : decode cX2_reasonAgainst 3 = .ok (.invokevirtual 51, 3) := by decide +kernel
theorem ddX2_reasonAgainst_6 : decode cX2_reasonAgainst 6 = .ok (.iconst (-1), 1) := by decide +kernel
theorem ddX2_reasonAgainst_7 : decode cX2_reasonAgainst 7 = .ok (.if_icmp .eq 5, 3) := by decide +kernel
theorem ddX2_reasonAgainst_10 : decode cX2_reasonAgainst 10 = .ok (.iconst 1, 1) := by decide +kernel
theorem ddX2_reasonAgainst_11 : decode cX2_reasonAgainst 11 = .ok (.ireturn, 1) := by decide +kernel
theorem ddX2_reasonAgainst_12 : decode cX2_reasonAgainst 12 = .ok (.aload_n 0, 1) := by decide +kernel
theorem ddX2_reasonAgainst_13 : decode cX2_reasonAgainst 13 = .ok (.iload_n 3, 1) := by decide +kernel
theorem ddX2_reasonAgainst_14 : decode cX2_reasonAgainst 14 = .ok (.invokevirtual 57, 3) := by decide +kernel
theorem ddX2_reasonAgainst_17 : decode cX2_reasonAgainst 17 = .ok (.aload_n 0, 1) := by decide +kernel
theorem ddX2_reasonAgainst_18 : decode cX2_reasonAgainst 18 = .ok (.iload_n 1, 1) := by decide +kernel
theorem ddX2_reasonAgainst_19 : decode cX2_reasonAgainst 19 = .ok (.invokevirtual 60, 3) := by decide +kernel
theorem ddX2_reasonAgainst_22 : decode cX2_reasonAgainst 22 = .ok (.if_icmp .ge 5, 3) := by decide +kernel
theorem ddX2_reasonAgainst_25 : decode cX2_reasonAgainst 25 = .ok (.iconst 2, 1) := by decide +kernel
theorem ddX2_reasonAgainst_26 : decode cX2_reasonAgainst 26 = .ok (.ireturn, 1) := by decide +kernel
theorem ddX2_reasonAgainst_27 : decode cX2_reasonAgainst 27 = .ok (.aload_n 0, 1) := by decide +kernel
theorem ddX2_reasonAgainst_28 : decode cX2_reasonAgainst 28 = .ok (.iload_n 3, 1) := by decide +kernel
theorem ddX2_reasonAgainst_29 : decode cX2_reasonAgainst 29 = .ok (.iload_n 2, 1) := by decide +kernel
theorem ddX2_reasonAgainst_30 : decode cX2_reasonAgainst 30 = .ok (.invokevirtual 63, 3) := by decide +kernel
theorem ddX2_reasonAgainst_33 : decode cX2_reasonAgainst 33 = .ok (.ifCond .eq 5, 3) := by decide +kernel
theorem ddX2_reasonAgainst_36 : decode cX2_reasonAgainst 36 = .ok (.iconst 3, 1) := by decide +kernel
theorem ddX2_reasonAgainst_37 : decode cX2_reasonAgainst 37 = .ok (.ireturn, 1) := by decide +kernel
theorem ddX2_reasonAgainst_38 : decode cX2_reasonAgainst 38 = .ok (.aload_n 0, 1) := by decide +kernel
theorem ddX2_reasonAgainst_39 : decode cX2_reasonAgainst 39 = .ok (.iload_n 3, 1) := by decide +kernel
theorem ddX2_reasonAgainst_40 : decode cX2_reasonAgainst 40 = .ok (.iload_n 2, 1) := by decide +kernel
theorem ddX2_reasonAgainst_41 : decode cX2_reasonAgainst 41 = .ok (.invokevirtual 34, 3) := by decide +kernel
theorem ddX2_reasonAgainst_44 : decode cX2_reasonAgainst 44 = .ok (.iconst (-1), 1) := by decide +kernel
theorem ddX2_reasonAgainst_45 : decode cX2_reasonAgainst 45 = .ok (.if_icmp .eq 5, 3) := by decide +kernel
theorem ddX2_reasonAgainst_48 : decode cX2_reasonAgainst 48 = .ok (.iconst 4, 1) := by decide +kernel
theorem ddX2_reasonAgainst_49 : decode cX2_reasonAgainst 49 = .ok (.ireturn, 1) := by decide +kernel
theorem ddX2_reasonAgainst_50 : decode cX2_reasonAgainst 50 = .ok (.aload_n 0, 1) := by decide +kernel
theorem ddX2_reasonAgainst_51 : decode cX2_reasonAgainst 51 = .ok (.iload_n 3, 1) := by decide +kernel
theorem ddX2_reasonAgainst_52 : decode cX2_reasonAgainst 52 = .ok (.iload_n 2, 1) := by decide +kernel
theorem ddX2_reasonAgainst_53 : decode cX2_reasonAgainst 53 = .ok (.iconst 1, 1) := by decide +kernel
theorem ddX2_reasonAgainst_54 : decode cX2_reasonAgainst 54 = .ok (.isub, 1) := by decide +kernel
theorem ddX2_reasonAgainst_55 : decode cX2_reasonAgainst 55 = .ok (.invokevirtual 34, 3) := by decide +kernel
theorem ddX2_reasonAgainst_58 : decode cX2_reasonAgainst 58 = .ok (.iconst (-1), 1) := by decide +kernel
theorem ddX2_reasonAgainst_59 : decode cX2_reasonAgainst 59 = .ok (.if_icmp .eq 5, 3) := by decide +kernel
theorem ddX2_reasonAgainst_62 : decode cX2_reasonAgainst 62 = .ok (.iconst 5, 1) := by decide +kernel
theorem ddX2_reasonAgainst_63 : decode cX2_reasonAgainst 63 = .ok (.ireturn, 1) := by decide +kernel
theorem ddX2_reasonAgainst_64 : decode cX2_reasonAgainst 64 = .ok (.aload_n 0, 1) := by decide +kernel
theorem ddX2_reasonAgainst_65 : decode cX2_reasonAgainst 65 = .ok (.iload_n 3, 1) := by decide +kernel
theorem ddX2_reasonAgainst_66 : decode cX2_reasonAgainst 66 = .ok (.iload_n 2, 1) := by decide +kernel
theorem ddX2_reasonAgainst_67 : decode cX2_reasonAgainst 67 = .ok (.iconst 1, 1) := by decide +kernel
theorem ddX2_reasonAgainst_68 : decode cX2_reasonAgainst 68 = .ok (.iadd, 1) := by decide +kernel
theorem ddX2_reasonAgainst_69 : decode cX2_reasonAgainst 69 = .ok (.invokevirtual 34, 3) := by decide +kernel
theorem ddX2_reasonAgainst_72 : decode cX2_reasonAgainst 72 = .ok (.iconst (-1), 1) := by decide +kernel
theorem ddX2_reasonAgainst_73 : decode cX2_reasonAgainst 73 = .ok (.if_icmp .eq 8, 3) := by decide +kernel
theorem ddX2_reasonAgainst_76 : decode cX2_reasonAgainst 76 = .ok (.bipush 6, 2) := by decide +kernel
theorem ddX2_reasonAgainst_78 : decode cX2_reasonAgainst 78 = .ok (.goto 4, 3) := by decide +kernel
theorem ddX2_reasonAgainst_81 : decode cX2_reasonAgainst 81 = .ok (.iconst 0, 1) := by decide +kernel
theorem ddX2_reasonAgainst_82 : decode cX2_reasonAgainst 82 = .ok (.ireturn, 1) := by decide +kernel
theorem ddX2_detailOf_0 : decode cX2_detailOf 0 = .ok (.iload_n 1, 1) := by decide +kernel
theorem ddX2_detailOf_1 : decode cX2_detailOf 1 = .ok (.tableswitch 69 1 5 #[35, 42, 49, 51, 59], 35) := by decide +kernel
theorem ddX2_detailOf_36 : decode cX2_detailOf 36 = .ok (.aload_n 0, 1) := by decide +kernel
theorem ddX2_detailOf_37 : decode cX2_detailOf 37 = .ok (.iload_n 2, 1) := by decide +kernel
theorem ddX2_detailOf_38 : decode cX2_detailOf 38 = .ok (.iload_n 3, 1) := by decide +kernel
theorem ddX2_detailOf_39 : decode cX2_detailOf 39 = .ok (.invokevirtual 51, 3) := by decide +kernel
theorem ddX2_detailOf_42 : decode cX2_detailOf 42 = .ok (.ireturn, 1) := by decide +kernel
theorem ddX2_detailOf_43 : decode cX2_detailOf 43 = .ok (.aload_n 0, 1) := by decide +kernel
theorem ddX2_detailOf_44 : decode cX2_detailOf 44 = .ok (.iload 4, 2) := by decide +kernel
theorem ddX2_detailOf_46 : decode cX2_detailOf 46 = .ok (.invokevirtual 57, 3) := by decide +kernel
theorem ddX2_detailOf_49 : decode cX2_detailOf 49 = .ok (.ireturn, 1) := by decide +kernel
theorem ddX2_detailOf_50 : decode cX2_detailOf 50 = .ok (.iload_n 3, 1) := by decide +kernel
theorem ddX2_detailOf_51 : decode cX2_detailOf 51 = .ok (.ireturn, 1) := by decide +kernel
theorem ddX2_detailOf_52 : decode cX2_detailOf 52 = .ok (.aload_n 0, 1) := by decide +kernel
theorem ddX2_detailOf_53 : decode cX2_detailOf 53 = .ok (.iload 4, 2) := by decide +kernel
theorem ddX2_detailOf_55 : decode cX2_detailOf 55 = .ok (.iload_n 3, 1) := by decide +kernel
theorem ddX2_detailOf_56 : decode cX2_detailOf 56 = .ok (.invokevirtual 34, 3) := by decide +kernel
theorem ddX2_detailOf_59 : decode cX2_detailOf 59 = .ok (.ireturn, 1) := by decide +kernel
theorem ddX2_detailOf_60 : decode cX2_detailOf 60 = .ok (.aload_n 0, 1) := by decide +kernel
theorem ddX2_detailOf_61 : decode cX2_detailOf 61 = .ok (.iload 4, 2) := by decide +kernel
theorem ddX2_detailOf_63 : decode cX2_detailOf 63 = .ok (.iload_n 3, 1) := by decide +kernel
theorem ddX2_detailOf_64 : decode cX2_detailOf 64 = .ok (.iconst 1, 1) := by decide +kernel
theorem ddX2_detailOf_65 : decode cX2_detailOf 65 = .ok (.isub, 1) := by decide +kernel
theorem ddX2_detailOf_66 : decode cX2_detailOf 66 = .ok (.invokevirtual 34, 3) := by decide +kernel
theorem ddX2_detailOf_69 : decode cX2_detailOf 69 = .ok (.ireturn, 1) := by decide +kernel
theorem ddX2_detailOf_70 : decode cX2_detailOf 70 = .ok (.aload_n 0, 1) := by decide +kernel
theorem ddX2_detailOf_71 : decode cX2_detailOf 71 = .ok (.iload 4, 2) := by decide +kernel
theorem ddX2_detailOf_73 : decode cX2_detailOf 73 = .ok (.iload_n 3, 1) := by decide +kernel
theorem ddX2_detailOf_74 : decode cX2_detailOf 74 = .ok (.iconst 1, 1) := by decide +kernel
theorem ddX2_detailOf_75 : decode cX2_detailOf 75 = .ok (.iadd, 1) := by decide +kernel
theorem ddX2_detailOf_76 : decode cX2_detailOf 76 = .ok (.invokevirtual 34, 3) := by decide +kernel
theorem ddX2_detailOf_79 : decode cX2_detailOf 79 = .ok (.ireturn, 1) := by decide +kernel
theorem ddX2_nextSlotOf_0 : decode cX2_nextSlotOf 0 = .ok (.aload_n 0, 1) := by decide +kernel
theorem ddX2_nextSlotOf_1 : decode cX2_nextSlotOf 1 = .ok (.invokevirtual 54, 3) := by decide +kernel
theorem ddX2_nextSlotOf_4 : decode cX2_nextSlotOf 4 = .ok (.istore_n 2, 1) := by decide +kernel
theorem ddX2_nextSlotOf_5 : decode cX2_nextSlotOf 5 = .ok (.iload_n 2, 1) := by decide +kernel
theorem ddX2_nextSlotOf_6 : decode cX2_nextSlotOf 6 = .ok (.bipush 28, 2) := by decide +kernel
theorem ddX2_nextSlotOf_8 : decode cX2_nextSlotOf 8 = .ok (.if_icmp .ge 21, 3) := by decide +kernel
theorem ddX2_nextSlotOf_11 : decode cX2_nextSlotOf 11 = .ok (.aload_n 0, 1) := by decide +kernel
theorem ddX2_nextSlotOf_12 : decode cX2_nextSlotOf 12 = .ok (.iload_n 1, 1) := by decide +kernel
theorem ddX2_nextSlotOf_13 : decode cX2_nextSlotOf 13 = .ok (.iload_n 2, 1) := by decide +kernel
theorem ddX2_nextSlotOf_14 : decode cX2_nextSlotOf 14 = .ok (.invokevirtual 34, 3) := by decide +kernel
theorem ddX2_nextSlotOf_17 : decode cX2_nextSlotOf 17 = .ok (.iconst (-1), 1) := by decide +kernel
theorem ddX2_nextSlotOf_18 : decode cX2_nextSlotOf 18 = .ok (.if_icmp .eq 5, 3) := by decide +kernel
theorem ddX2_nextSlotOf_21 : decode cX2_nextSlotOf 21 = .ok (.iload_n 2, 1) := by decide +kernel
theorem ddX2_nextSlotOf_22 : decode cX2_nextSlotOf 22 = .ok (.ireturn, 1) := by decide +kernel
theorem ddX2_nextSlotOf_23 : decode cX2_nextSlotOf 23 = .ok (.iinc 2 1, 3) := by decide +kernel
theorem ddX2_nextSlotOf_26 : decode cX2_nextSlotOf 26 = .ok (.goto (-21), 3) := by decide +kernel
theorem ddX2_nextSlotOf_29 : decode cX2_nextSlotOf 29 = .ok (.iconst (-1), 1) := by decide +kernel
theorem ddX2_nextSlotOf_30 : decode cX2_nextSlotOf 30 = .ok (.ireturn, 1) := by decide +kernel
theorem ddX2_longestGap_0 : decode cX2_longestGap 0 = .ok (.iconst 0, 1) := by decide +kernel
theorem ddX2_longestGap_1 : decode cX2_longestGap 1 = .ok (.istore_n 2, 1) := by decide +kernel
theorem ddX2_longestGap_2 : decode cX2_longestGap 2 = .ok (.iconst 0, 1) := by decide +kernel
theorem ddX2_longestGap_3 : decode cX2_longestGap 3 = .ok (.istore_n 3, 1) := by decide +kernel
theorem ddX2_longestGap_4 : decode cX2_longestGap 4 = .ok (.iconst 0, 1) := by decide +kernel
theorem ddX2_longestGap_5 : decode cX2_longestGap 5 = .ok (.istore 4, 2) := by decide +kernel
theorem ddX2_longestGap_7 : decode cX2_longestGap 7 = .ok (.iload 4, 2) := by decide +kernel
theorem ddX2_longestGap_9 : decode cX2_longestGap 9 = .ok (.bipush 28, 2) := by decide +kernel
theorem ddX2_longestGap_11 : decode cX2_longestGap 11 = .ok (.if_icmp .ge 34, 3) := by decide +kernel
theorem ddX2_longestGap_14 : decode cX2_longestGap 14 = .ok (.aload_n 0, 1) := by decide +kernel
theorem ddX2_longestGap_15 : decode cX2_longestGap 15 = .ok (.iload_n 1, 1) := by decide +kernel
theorem ddX2_longestGap_16 : decode cX2_longestGap 16 = .ok (.iload 4, 2) := by decide +kernel
theorem ddX2_longestGap_18 : decode cX2_longestGap 18 = .ok (.invokevirtual 34, 3) := by decide +kernel
theorem ddX2_longestGap_21 : decode cX2_longestGap 21 = .ok (.iconst (-1), 1) := by decide +kernel
theorem ddX2_longestGap_22 : decode cX2_longestGap 22 = .ok (.if_icmp .ne 9, 3) := by decide +kernel
theorem ddX2_longestGap_25 : decode cX2_longestGap 25 = .ok (.iload_n 3, 1) := by decide +kernel
theorem ddX2_longestGap_26 : decode cX2_longestGap 26 = .ok (.iconst 1, 1) := by decide +kernel
theorem ddX2_longestGap_27 : decode cX2_longestGap 27 = .ok (.iadd, 1) := by decide +kernel
theorem ddX2_longestGap_28 : decode cX2_longestGap 28 = .ok (.goto 4, 3) := by decide +kernel
theorem ddX2_longestGap_31 : decode cX2_longestGap 31 = .ok (.iconst 0, 1) := by decide +kernel
theorem ddX2_longestGap_32 : decode cX2_longestGap 32 = .ok (.istore_n 3, 1) := by decide +kernel
theorem ddX2_longestGap_33 : decode cX2_longestGap 33 = .ok (.iload_n 2, 1) := by decide +kernel
theorem ddX2_longestGap_34 : decode cX2_longestGap 34 = .ok (.iload_n 3, 1) := by decide +kernel
theorem ddX2_longestGap_35 : decode cX2_longestGap 35 = .ok (.invokestatic 38, 3) := by decide +kernel
theorem ddX2_longestGap_38 : decode cX2_longestGap 38 = .ok (.istore_n 2, 1) := by decide +kernel
theorem ddX2_longestGap_39 : decode cX2_longestGap 39 = .ok (.iinc 4 1, 3) := by decide +kernel
theorem ddX2_longestGap_42 : decode cX2_longestGap 42 = .ok (.goto (-35), 3) := by decide +kernel
theorem ddX2_longestGap_45 : decode cX2_longestGap 45 = .ok (.iload_n 2, 1) := by decide +kernel
theorem ddX2_longestGap_46 : decode cX2_longestGap 46 = .ok (.ireturn, 1) := by decide +kernel
theorem ddX2_allRest_0 : decode cX2_allRest 0 = .ok (.iconst 0, 1) := by decide +kernel
theorem ddX2_allRest_1 : decode cX2_allRest 1 = .ok (.istore_n 1, 1) := by decide +kernel
theorem ddX2_allRest_2 : decode cX2_allRest 2 = .ok (.iload_n 1, 1) := by decide +kernel
theorem ddX2_allRest_3 : decode cX2_allRest 3 = .ok (.aload_n 0, 1) := by decide +kernel
theorem ddX2_allRest_4 : decode cX2_allRest 4 = .ok (.invokevirtual 67, 3) := by decide +kernel
theorem ddX2_allRest_7 : decode cX2_allRest 7 = .ok (.if_icmp .ge 47, 3) := by decide +kernel
theorem ddX2_allRest_10 : decode cX2_allRest 10 = .ok (.iconst 1, 1) := by decide +kernel
theorem ddX2_allRest_11 : decode cX2_allRest 11 = .ok (.istore_n 2, 1) := by decide +kernel
theorem ddX2_allRest_12 : decode cX2_allRest 12 = .ok (.iload_n 2, 1) := by decide +kernel
theorem ddX2_allRest_13 : decode cX2_allRest 13 = .ok (.bipush 28, 2) := by decide +kernel
theorem ddX2_allRest_15 : decode cX2_allRest 15 = .ok (.if_icmp .ge 33, 3) := by decide +kernel
theorem ddX2_allRest_18 : decode cX2_allRest 18 = .ok (.aload_n 0, 1) := by decide +kernel
theorem ddX2_allRest_19 : decode cX2_allRest 19 = .ok (.iload_n 1, 1) := by decide +kernel
theorem ddX2_allRest_20 : decode cX2_allRest 20 = .ok (.iload_n 2, 1) := by decide +kernel
theorem ddX2_allRest_21 : decode cX2_allRest 21 = .ok (.iconst 1, 1) := by decide +kernel
theorem ddX2_allRest_22 : decode cX2_allRest 22 = .ok (.isub, 1) := by decide +kernel
theorem ddX2_allRest_23 : decode cX2_allRest 23 = .ok (.invokevirtual 34, 3) := by decide +kernel
theorem ddX2_allRest_26 : decode cX2_allRest 26 = .ok (.iconst (-1), 1) := by decide +kernel
theorem ddX2_allRest_27 : decode cX2_allRest 27 = .ok (.if_icmp .eq 15, 3) := by decide +kernel
theorem ddX2_allRest_30 : decode cX2_allRest 30 = .ok (.aload_n 0, 1) := by decide +kernel
theorem ddX2_allRest_31 : decode cX2_allRest 31 = .ok (.iload_n 1, 1) := by decide +kernel
theorem ddX2_allRest_32 : decode cX2_allRest 32 = .ok (.iload_n 2, 1) := by decide +kernel
theorem ddX2_allRest_33 : decode cX2_allRest 33 = .ok (.invokevirtual 34, 3) := by decide +kernel
theorem ddX2_allRest_36 : decode cX2_allRest 36 = .ok (.iconst (-1), 1) := by decide +kernel
theorem ddX2_allRest_37 : decode cX2_allRest 37 = .ok (.if_icmp .eq 5, 3) := by decide +kernel
theorem ddX2_allRest_40 : decode cX2_allRest 40 = .ok (.iconst 0, 1) := by decide +kernel
theorem ddX2_allRest_41 : decode cX2_allRest 41 = .ok (.ireturn, 1) := by decide +kernel
theorem ddX2_allRest_42 : decode cX2_allRest 42 = .ok (.iinc 2 1, 3) := by decide +kernel
theorem ddX2_allRest_45 : decode cX2_allRest 45 = .ok (.goto (-33), 3) := by decide +kernel
theorem ddX2_allRest_48 : decode cX2_allRest 48 = .ok (.iinc 1 1, 3) := by decide +kernel
theorem ddX2_allRest_51 : decode cX2_allRest 51 = .ok (.goto (-49), 3) := by decide +kernel
theorem ddX2_allRest_54 : decode cX2_allRest 54 = .ok (.iconst 1, 1) := by decide +kernel
theorem ddX2_allRest_55 : decode cX2_allRest 55 = .ok (.ireturn, 1) := by decide +kernel
theorem ddX2_computeOrderKeys_0 : decode cX2_computeOrderKeys 0 = .ok (.iconst 0, 1) := by decide +kernel
theorem ddX2_computeOrderKeys_1 : decode cX2_computeOrderKeys 1 = .ok (.istore_n 1, 1) := by decide +kernel
theorem ddX2_computeOrderKeys_2 : decode cX2_computeOrderKeys 2 = .ok (.iload_n 1, 1) := by decide +kernel
theorem ddX2_computeOrderKeys_3 : decode cX2_computeOrderKeys 3 = .ok (.bipush 10, 2) := by decide +kernel
theorem ddX2_computeOrderKeys_5 : decode cX2_computeOrderKeys 5 = .ok (.if_icmp .ge 34, 3) := by decide +kernel
theorem ddX2_computeOrderKeys_8 : decode cX2_computeOrderKeys 8 = .ok (.aload_n 0, 1) := by decide +kernel
theorem ddX2_computeOrderKeys_9 : decode cX2_computeOrderKeys 9 = .ok (.getfield 15, 3) := by decide +kernel
theorem ddX2_computeOrderKeys_12 : decode cX2_computeOrderKeys 12 = .ok (.iload_n 1, 1) := by decide +kernel
theorem ddX2_computeOrderKeys_13 : decode cX2_computeOrderKeys 13 = .ok (.aload_n 0, 1) := by decide +kernel
theorem ddX2_computeOrderKeys_14 : decode cX2_computeOrderKeys 14 = .ok (.iload_n 1, 1) := by decide +kernel
theorem ddX2_computeOrderKeys_15 : decode cX2_computeOrderKeys 15 = .ok (.invokevirtual 70, 3) := by decide +kernel
theorem ddX2_computeOrderKeys_18 : decode cX2_computeOrderKeys 18 = .ok (.bipush 10, 2) := by decide +kernel
theorem ddX2_computeOrderKeys_20 : decode cX2_computeOrderKeys 20 = .ok (.imul, 1) := by decide +kernel
theorem ddX2_computeOrderKeys_21 : decode cX2_computeOrderKeys 21 = .ok (.aload_n 0, 1) := by decide +kernel
theorem ddX2_computeOrderKeys_22 : decode cX2_computeOrderKeys 22 = .ok (.iload_n 1, 1) := by decide +kernel
theorem ddX2_computeOrderKeys_23 : decode cX2_computeOrderKeys 23 = .ok (.invokevirtual 57, 3) := by decide +kernel
theorem ddX2_computeOrderKeys_26 : decode cX2_computeOrderKeys 26 = .ok (.iadd, 1) := by decide +kernel
theorem ddX2_computeOrderKeys_27 : decode cX2_computeOrderKeys 27 = .ok (.bipush 10, 2) := by decide +kernel
theorem ddX2_computeOrderKeys_29 : decode cX2_computeOrderKeys 29 = .ok (.imul, 1) := by decide +kernel
theorem ddX2_computeOrderKeys_30 : decode cX2_computeOrderKeys 30 = .ok (.iload_n 1, 1) := by decide +kernel
theorem ddX2_computeOrderKeys_31 : decode cX2_computeOrderKeys 31 = .ok (.iadd, 1) := by decide +kernel
theorem ddX2_computeOrderKeys_32 : decode cX2_computeOrderKeys 32 = .ok (.iastore, 1) := by decide +kernel
theorem ddX2_computeOrderKeys_33 : decode cX2_computeOrderKeys 33 = .ok (.iinc 1 1, 3) := by decide +kernel
theorem ddX2_computeOrderKeys_36 : decode cX2_computeOrderKeys 36 = .ok (.goto (-34), 3) := by decide +kernel
theorem ddX2_computeOrderKeys_39 : decode cX2_computeOrderKeys 39 = .ok (.return_, 1) := by decide +kernel
theorem ddX2_guardInOrder_0 : decode cX2_guardInOrder 0 = .ok (.aload_n 0, 1) := by decide +kernel
theorem ddX2_guardInOrder_1 : decode cX2_guardInOrder 1 = .ok (.invokevirtual 73, 3) := by decide +kernel
theorem ddX2_guardInOrder_4 : decode cX2_guardInOrder 4 = .ok (.iconst 0, 1) := by decide +kernel
theorem ddX2_guardInOrder_5 : decode cX2_guardInOrder 5 = .ok (.istore_n 2, 1) := by decide +kernel
theorem ddX2_guardInOrder_6 : decode cX2_guardInOrder 6 = .ok (.iload_n 2, 1) := by decide +kernel
theorem ddX2_guardInOrder_7 : decode cX2_guardInOrder 7 = .ok (.bipush 10, 2) := by decide +kernel
theorem ddX2_guardInOrder_9 : decode cX2_guardInOrder 9 = .ok (.if_icmp .ge 33, 3) := by decide +kernel
theorem ddX2_guardInOrder_12 : decode cX2_guardInOrder 12 = .ok (.iload_n 2, 1) := by decide +kernel
theorem ddX2_guardInOrder_13 : decode cX2_guardInOrder 13 = .ok (.aload_n 0, 1) := by decide +kernel
theorem ddX2_guardInOrder_14 : decode cX2_guardInOrder 14 = .ok (.invokevirtual 67, 3) := by decide +kernel
theorem ddX2_guardInOrder_17 : decode cX2_guardInOrder 17 = .ok (.if_icmp .ge 25, 3) := by decide +kernel
theorem ddX2_guardInOrder_20 : decode cX2_guardInOrder 20 = .ok (.aload_n 0, 1) := by decide +kernel
theorem ddX2_guardInOrder_21 : decode cX2_guardInOrder 21 = .ok (.aload_n 0, 1) := by decide +kernel
theorem ddX2_guardInOrder_22 : decode cX2_guardInOrder 22 = .ok (.getfield 15, 3) := by decide +kernel
theorem ddX2_guardInOrder_25 : decode cX2_guardInOrder 25 = .ok (.iload_n 2, 1) := by decide +kernel
theorem ddX2_guardInOrder_26 : decode cX2_guardInOrder 26 = .ok (.iaload, 1) := by decide +kernel
theorem ddX2_guardInOrder_27 : decode cX2_guardInOrder 27 = .ok (.invokevirtual 76, 3) := by decide +kernel
theorem ddX2_guardInOrder_30 : decode cX2_guardInOrder 30 = .ok (.iload_n 1, 1) := by decide +kernel
theorem ddX2_guardInOrder_31 : decode cX2_guardInOrder 31 = .ok (.if_icmp .ne 5, 3) := by decide +kernel
theorem ddX2_guardInOrder_34 : decode cX2_guardInOrder 34 = .ok (.iload_n 2, 1) := by decide +kernel
theorem ddX2_guardInOrder_35 : decode cX2_guardInOrder 35 = .ok (.ireturn, 1) := by decide +kernel
theorem ddX2_guardInOrder_36 : decode cX2_guardInOrder 36 = .ok (.iinc 2 1, 3) := by decide +kernel
theorem ddX2_guardInOrder_39 : decode cX2_guardInOrder 39 = .ok (.goto (-33), 3) := by decide +kernel
theorem ddX2_guardInOrder_42 : decode cX2_guardInOrder 42 = .ok (.iconst (-1), 1) := by decide +kernel
theorem ddX2_guardInOrder_43 : decode cX2_guardInOrder 43 = .ok (.ireturn, 1) := by decide +kernel
theorem ddX2_guardsBefore_0 : decode cX2_guardsBefore 0 = .ok (.iconst 0, 1) := by decide +kernel
theorem ddX2_guardsBefore_1 : decode cX2_guardsBefore 1 = .ok (.istore_n 2, 1) := by decide +kernel
theorem ddX2_guardsBefore_2 : decode cX2_guardsBefore 2 = .ok (.iconst 0, 1) := by decide +kernel
theorem ddX2_guardsBefore_3 : decode cX2_guardsBefore 3 = .ok (.istore_n 3, 1) := by decide +kernel
theorem ddX2_guardsBefore_4 : decode cX2_guardsBefore 4 = .ok (.iload_n 3, 1) := by decide +kernel
theorem ddX2_guardsBefore_5 : decode cX2_guardsBefore 5 = .ok (.bipush 10, 2) := by decide +kernel
theorem ddX2_guardsBefore_7 : decode cX2_guardsBefore 7 = .ok (.if_icmp .ge 30, 3) := by decide +kernel
theorem ddX2_guardsBefore_10 : decode cX2_guardsBefore 10 = .ok (.iload_n 3, 1) := by decide +kernel
theorem ddX2_guardsBefore_11 : decode cX2_guardsBefore 11 = .ok (.aload_n 0, 1) := by decide +kernel
theorem ddX2_guardsBefore_12 : decode cX2_guardsBefore 12 = .ok (.invokevirtual 67, 3) := by decide +kernel
theorem ddX2_guardsBefore_15 : decode cX2_guardsBefore 15 = .ok (.if_icmp .ge 22, 3) := by decide +kernel
theorem ddX2_guardsBefore_18 : decode cX2_guardsBefore 18 = .ok (.aload_n 0, 1) := by decide +kernel
theorem ddX2_guardsBefore_19 : decode cX2_guardsBefore 19 = .ok (.getfield 15, 3) := by decide +kernel
theorem ddX2_guardsBefore_22 : decode cX2_guardsBefore 22 = .ok (.iload_n 3, 1) := by decide +kernel
theorem ddX2_guardsBefore_23 : decode cX2_guardsBefore 23 = .ok (.iaload, 1) := by decide +kernel
theorem ddX2_guardsBefore_24 : decode cX2_guardsBefore 24 = .ok (.iload_n 1, 1) := by decide +kernel
theorem ddX2_guardsBefore_25 : decode cX2_guardsBefore 25 = .ok (.if_icmp .ge 6, 3) := by decide +kernel
theorem ddX2_guardsBefore_28 : decode cX2_guardsBefore 28 = .ok (.iinc 2 1, 3) := by decide +kernel
theorem ddX2_guardsBefore_31 : decode cX2_guardsBefore 31 = .ok (.iinc 3 1, 3) := by decide +kernel
theorem ddX2_guardsBefore_34 : decode cX2_guardsBefore 34 = .ok (.goto (-30), 3) := by decide +kernel
theorem ddX2_guardsBefore_37 : decode cX2_guardsBefore 37 = .ok (.iload_n 2, 1) := by decide +kernel
theorem ddX2_guardsBefore_38 : decode cX2_guardsBefore 38 = .ok (.ireturn, 1) := by decide +kernel
theorem ddX2_fill_0 : decode cX2_fill 0 = .ok (.aload_n 0, 1) := by decide +kernel
theorem ddX2_fill_1 : decode cX2_fill 1 = .ok (.invokevirtual 73, 3) := by decide +kernel
theorem ddX2_fill_4 : decode cX2_fill 4 = .ok (.iconst 0, 1) := by decide +kernel
theorem ddX2_fill_5 : decode cX2_fill 5 = .ok (.istore_n 2, 1) := by decide +kernel
theorem ddX2_fill_6 : decode cX2_fill 6 = .ok (.iconst 0, 1) := by decide +kernel
theorem ddX2_fill_7 : decode cX2_fill 7 = .ok (.istore_n 3, 1) := by decide +kernel
theorem ddX2_fill_8 : decode cX2_fill 8 = .ok (.iconst 0, 1) := by decide +kernel
theorem ddX2_fill_9 : decode cX2_fill 9 = .ok (.istore 4, 2) := by decide +kernel
theorem ddX2_fill_11 : decode cX2_fill 11 = .ok (.iload 4, 2) := by decide +kernel
theorem ddX2_fill_13 : decode cX2_fill 13 = .ok (.aload_n 0, 1) := by decide +kernel
theorem ddX2_fill_14 : decode cX2_fill 14 = .ok (.invokevirtual 43, 3) := by decide +kernel
theorem ddX2_fill_17 : decode cX2_fill 17 = .ok (.if_icmp .ge 50, 3) := by decide +kernel
theorem ddX2_fill_20 : decode cX2_fill 20 = .ok (.aload_n 0, 1) := by decide +kernel
theorem ddX2_fill_21 : decode cX2_fill 21 = .ok (.iload_n 3, 1) := by decide +kernel
theorem ddX2_fill_22 : decode cX2_fill 22 = .ok (.invokevirtual 79, 3) := by decide +kernel
theorem ddX2_fill_25 : decode cX2_fill 25 = .ok (.istore 5, 2) := by decide +kernel
theorem ddX2_fill_27 : decode cX2_fill 27 = .ok (.iload_n 3, 1) := by decide +kernel
theorem ddX2_fill_28 : decode cX2_fill 28 = .ok (.iconst 1, 1) := by decide +kernel
theorem ddX2_fill_29 : decode cX2_fill 29 = .ok (.iload 5, 2) := by decide +kernel
theorem ddX2_fill_31 : decode cX2_fill 31 = .ok (.ishl, 1) := by decide +kernel
theorem ddX2_fill_32 : decode cX2_fill 32 = .ok (.ior, 1) := by decide +kernel
theorem ddX2_fill_33 : decode cX2_fill 33 = .ok (.istore_n 3, 1) := by decide +kernel
theorem ddX2_fill_34 : decode cX2_fill 34 = .ok (.aload_n 0, 1) := by decide +kernel
theorem ddX2_fill_35 : decode cX2_fill 35 = .ok (.iload 5, 2) := by decide +kernel
theorem ddX2_fill_37 : decode cX2_fill 37 = .ok (.iload_n 1, 1) := by decide +kernel
theorem ddX2_fill_38 : decode cX2_fill 38 = .ok (.invokevirtual 82, 3) := by decide +kernel
theorem ddX2_fill_41 : decode cX2_fill 41 = .ok (.istore 6, 2) := by decide +kernel
theorem ddX2_fill_43 : decode cX2_fill 43 = .ok (.iload 6, 2) := by decide +kernel
theorem ddX2_fill_45 : decode cX2_fill 45 = .ok (.iconst (-1), 1) := by decide +kernel
theorem ddX2_fill_46 : decode cX2_fill 46 = .ok (.if_icmp .eq 15, 3) := by decide +kernel
theorem ddX2_fill_49 : decode cX2_fill 49 = .ok (.aload_n 0, 1) := by decide +kernel
theorem ddX2_fill_50 : decode cX2_fill 50 = .ok (.iload 5, 2) := by decide +kernel
theorem ddX2_fill_52 : decode cX2_fill 52 = .ok (.iload_n 1, 1) := by decide +kernel
theorem ddX2_fill_53 : decode cX2_fill 53 = .ok (.iload 6, 2) := by decide +kernel
theorem ddX2_fill_55 : decode cX2_fill 55 = .ok (.invokevirtual 85, 3) := by decide +kernel
theorem ddX2_fill_58 : decode cX2_fill 58 = .ok (.iinc 2 1, 3) := by decide +kernel
theorem ddX2_fill_61 : decode cX2_fill 61 = .ok (.iinc 4 1, 3) := by decide +kernel
theorem ddX2_fill_64 : decode cX2_fill 64 = .ok (.goto (-53), 3) := by decide +kernel
theorem ddX2_fill_67 : decode cX2_fill 67 = .ok (.iload_n 2, 1) := by decide +kernel
theorem ddX2_fill_68 : decode cX2_fill 68 = .ok (.ireturn, 1) := by decide +kernel
theorem ddX2_mostNeedingGate_0 : decode cX2_mostNeedingGate 0 = .ok (.iconst (-1), 1) := by decide +kernel
theorem ddX2_mostNeedingGate_1 : decode cX2_mostNeedingGate 1 = .ok (.istore_n 2, 1) := by decide +kernel
theorem ddX2_mostNeedingGate_2 : decode cX2_mostNeedingGate 2 = .ok (.iconst 0, 1) := by decide +kernel
theorem ddX2_mostNeedingGate_3 : decode cX2_mostNeedingGate 3 = .ok (.istore_n 3, 1) := by decide +kernel
theorem ddX2_mostNeedingGate_4 : decode cX2_mostNeedingGate 4 = .ok (.iload_n 3, 1) := by decide +kernel
theorem ddX2_mostNeedingGate_5 : decode cX2_mostNeedingGate 5 = .ok (.aload_n 0, 1) := by decide +kernel
theorem ddX2_mostNeedingGate_6 : decode cX2_mostNeedingGate 6 = .ok (.invokevirtual 43, 3) := by decide +kernel
theorem ddX2_mostNeedingGate_9 : decode cX2_mostNeedingGate 9 = .ok (.if_icmp .ge 49, 3) := by decide +kernel
theorem ddX2_mostNeedingGate_12 : decode cX2_mostNeedingGate 12 = .ok (.iload_n 1, 1) := by decide +kernel
theorem ddX2_mostNeedingGate_13 : decode cX2_mostNeedingGate 13 = .ok (.iload_n 3, 1) := by decide +kernel
theorem ddX2_mostNeedingGate_14 : decode cX2_mostNeedingGate 14 = .ok (.ishr, 1) := by decide +kernel
theorem ddX2_mostNeedingGate_15 : decode cX2_mostNeedingGate 15 = .ok (.iconst 1, 1) := by decide +kernel
theorem ddX2_mostNeedingGate_16 : decode cX2_mostNeedingGate 16 = .ok (.iand, 1) := by decide +kernel
theorem ddX2_mostNeedingGate_17 : decode cX2_mostNeedingGate 17 = .ok (.ifCond .ne 7, 3) := by decide +kernel
theorem ddX2_mostNeedingGate_20 : decode cX2_mostNeedingGate 20 = .ok (.iconst 1, 1) := by decide +kernel
theorem ddX2_mostNeedingGate_21 : decode cX2_mostNeedingGate 21 = .ok (.goto 4, 3) := by decide +kernel
theorem ddX2_mostNeedingGate_24 : decode cX2_mostNeedingGate 24 = .ok (.iconst 0, 1) := by decide +kernel
theorem ddX2_mostNeedingGate_25 : decode cX2_mostNeedingGate 25 = .ok (.istore 4, 2) := by decide +kernel
theorem ddX2_mostNeedingGate_27 : decode cX2_mostNeedingGate 27 = .ok (.iload 4, 2) := by decide +kernel
theorem ddX2_mostNeedingGate_29 : decode cX2_mostNeedingGate 29 = .ok (.ifCond .eq 23, 3) := by decide +kernel
theorem ddX2_mostNeedingGate_32 : decode cX2_mostNeedingGate 32 = .ok (.iload_n 2, 1) := by decide +kernel
theorem ddX2_mostNeedingGate_33 : decode cX2_mostNeedingGate 33 = .ok (.iconst (-1), 1) := by decide +kernel
theorem ddX2_mostNeedingGate_34 : decode cX2_mostNeedingGate 34 = .ok (.if_icmp .eq 16, 3) := by decide +kernel
theorem ddX2_mostNeedingGate_37 : decode cX2_mostNeedingGate 37 = .ok (.aload_n 0, 1) := by decide +kernel
theorem ddX2_mostNeedingGate_38 : decode cX2_mostNeedingGate 38 = .ok (.iload_n 3, 1) := by decide +kernel
theorem ddX2_mostNeedingGate_39 : decode cX2_mostNeedingGate 39 = .ok (.invokevirtual 60, 3) := by decide +kernel
theorem ddX2_mostNeedingGate_42 : decode cX2_mostNeedingGate 42 = .ok (.aload_n 0, 1) := by decide +kernel
theorem ddX2_mostNeedingGate_43 : decode cX2_mostNeedingGate 43 = .ok (.iload_n 2, 1) := by decide +kernel
theorem ddX2_mostNeedingGate_44 : decode cX2_mostNeedingGate 44 = .ok (.invokevirtual 60, 3) := by decide +kernel
theorem ddX2_mostNeedingGate_47 : decode cX2_mostNeedingGate 47 = .ok (.if_icmp .le 5, 3) := by decide +kernel
theorem ddX2_mostNeedingGate_50 : decode cX2_mostNeedingGate 50 = .ok (.iload_n 3, 1) := by decide +kernel
theorem ddX2_mostNeedingGate_51 : decode cX2_mostNeedingGate 51 = .ok (.istore_n 2, 1) := by decide +kernel
theorem ddX2_mostNeedingGate_52 : decode cX2_mostNeedingGate 52 = .ok (.iinc 3 1, 3) := by decide +kernel
theorem ddX2_mostNeedingGate_55 : decode cX2_mostNeedingGate 55 = .ok (.goto (-51), 3) := by decide +kernel
theorem ddX2_mostNeedingGate_58 : decode cX2_mostNeedingGate 58 = .ok (.iload_n 2, 1) := by decide +kernel
theorem ddX2_mostNeedingGate_59 : decode cX2_mostNeedingGate 59 = .ok (.ireturn, 1) := by decide +kernel
theorem ddX2_firstGuardFor_0 : decode cX2_firstGuardFor 0 = .ok (.iconst (-1), 1) := by decide +kernel
theorem ddX2_firstGuardFor_1 : decode cX2_firstGuardFor 1 = .ok (.istore_n 3, 1) := by decide +kernel
theorem ddX2_firstGuardFor_2 : decode cX2_firstGuardFor 2 = .ok (.iconst 0, 1) := by decide +kernel
theorem ddX2_firstGuardFor_3 : decode cX2_firstGuardFor 3 = .ok (.istore 4, 2) := by decide +kernel
theorem ddX2_firstGuardFor_5 : decode cX2_firstGuardFor 5 = .ok (.iload 4, 2) := by decide +kernel
theorem ddX2_firstGuardFor_7 : decode cX2_firstGuardFor 7 = .ok (.bipush 10, 2) := by decide +kernel
theorem ddX2_firstGuardFor_9 : decode cX2_firstGuardFor 9 = .ok (.if_icmp .ge 65, 3) := by decide +kernel
theorem ddX2_firstGuardFor_12 : decode cX2_firstGuardFor 12 = .ok (.iload 4, 2) := by decide +kernel
theorem ddX2_firstGuardFor_14 : decode cX2_firstGuardFor 14 = .ok (.aload_n 0, 1) := by decide +kernel
theorem ddX2_firstGuardFor_15 : decode cX2_firstGuardFor 15 = .ok (.invokevirtual 67, 3) := by decide +kernel
theorem ddX2_firstGuardFor_18 : decode cX2_firstGuardFor 18 = .ok (.if_icmp .ge 56, 3) := by decide +kernel
theorem ddX2_firstGuardFor_21 : decode cX2_firstGuardFor 21 = .ok (.iload_n 3, 1) := by decide +kernel
theorem ddX2_firstGuardFor_22 : decode cX2_firstGuardFor 22 = .ok (.iconst (-1), 1) := by decide +kernel
theorem ddX2_firstGuardFor_23 : decode cX2_firstGuardFor 23 = .ok (.if_icmp .eq 19, 3) := by decide +kernel
theorem ddX2_firstGuardFor_26 : decode cX2_firstGuardFor 26 = .ok (.aload_n 0, 1) := by decide +kernel
theorem ddX2_firstGuardFor_27 : decode cX2_firstGuardFor 27 = .ok (.getfield 15, 3) := by decide +kernel
theorem ddX2_firstGuardFor_30 : decode cX2_firstGuardFor 30 = .ok (.iload 4, 2) := by decide +kernel
theorem ddX2_firstGuardFor_32 : decode cX2_firstGuardFor 32 = .ok (.iaload, 1) := by decide +kernel
theorem ddX2_firstGuardFor_33 : decode cX2_firstGuardFor 33 = .ok (.aload_n 0, 1) := by decide +kernel
theorem ddX2_firstGuardFor_34 : decode cX2_firstGuardFor 34 = .ok (.getfield 15, 3) := by decide +kernel
theorem ddX2_firstGuardFor_37 : decode cX2_firstGuardFor 37 = .ok (.iload_n 3, 1) := by decide +kernel
theorem ddX2_firstGuardFor_38 : decode cX2_firstGuardFor 38 = .ok (.iaload, 1) := by decide +kernel
theorem ddX2_firstGuardFor_39 : decode cX2_firstGuardFor 39 = .ok (.if_icmp .ge 7, 3) := by decide +kernel
theorem ddX2_firstGuardFor_42 : decode cX2_firstGuardFor 42 = .ok (.iconst 1, 1) := by decide +kernel
theorem ddX2_firstGuardFor_43 : decode cX2_firstGuardFor 43 = .ok (.goto 4, 3) := by decide +kernel
theorem ddX2_firstGuardFor_46 : decode cX2_firstGuardFor 46 = .ok (.iconst 0, 1) := by decide +kernel
theorem ddX2_firstGuardFor_47 : decode cX2_firstGuardFor 47 = .ok (.istore 5, 2) := by decide +kernel
theorem ddX2_firstGuardFor_49 : decode cX2_firstGuardFor 49 = .ok (.iload 5, 2) := by decide +kernel
theorem ddX2_firstGuardFor_51 : decode cX2_firstGuardFor 51 = .ok (.ifCond .eq 17, 3) := by decide +kernel
theorem ddX2_firstGuardFor_54 : decode cX2_firstGuardFor 54 = .ok (.aload_n 0, 1) := by decide +kernel
theorem ddX2_firstGuardFor_55 : decode cX2_firstGuardFor 55 = .ok (.iload_n 1, 1) := by decide +kernel
theorem ddX2_firstGuardFor_56 : decode cX2_firstGuardFor 56 = .ok (.iload_n 2, 1) := by decide +kernel
theorem ddX2_firstGuardFor_57 : decode cX2_firstGuardFor 57 = .ok (.iload 4, 2) := by decide +kernel
theorem ddX2_firstGuardFor_59 : decode cX2_firstGuardFor 59 = .ok (.invokevirtual 89, 3) := by decide +kernel
theorem ddX2_firstGuardFor_62 : decode cX2_firstGuardFor 62 = .ok (.ifCond .ne 6, 3) := by decide +kernel
theorem ddX2_firstGuardFor_65 : decode cX2_firstGuardFor 65 = .ok (.iload 4, 2) := by decide +kernel
theorem ddX2_firstGuardFor_67 : decode cX2_firstGuardFor 67 = .ok (.istore_n 3, 1) := by decide +kernel
theorem ddX2_firstGuardFor_68 : decode cX2_firstGuardFor 68 = .ok (.iinc 4 1, 3) := by decide +kernel
theorem ddX2_firstGuardFor_71 : decode cX2_firstGuardFor 71 = .ok (.goto (-66), 3) := by decide +kernel
theorem ddX2_firstGuardFor_74 : decode cX2_firstGuardFor 74 = .ok (.iload_n 3, 1) := by decide +kernel
theorem ddX2_firstGuardFor_75 : decode cX2_firstGuardFor 75 = .ok (.ireturn, 1) := by decide +kernel
theorem ddX2_hasLeave_0 : decode cX2_hasLeave 0 = .ok (.aload_n 0, 1) := by decide +kernel
theorem ddX2_hasLeave_1 : decode cX2_hasLeave 1 = .ok (.iload_n 1, 1) := by decide +kernel
theorem ddX2_hasLeave_2 : decode cX2_hasLeave 2 = .ok (.invokevirtual 28, 3) := by decide +kernel
theorem ddX2_hasLeave_5 : decode cX2_hasLeave 5 = .ok (.ifCond .eq 24, 3) := by decide +kernel
theorem ddX2_hasLeave_8 : decode cX2_hasLeave 8 = .ok (.aload_n 0, 1) := by decide +kernel
theorem ddX2_hasLeave_9 : decode cX2_hasLeave 9 = .ok (.getfield 11, 3) := by decide +kernel
theorem ddX2_hasLeave_12 : decode cX2_hasLeave 12 = .ok (.bipush 29, 2) := by decide +kernel
theorem ddX2_hasLeave_14 : decode cX2_hasLeave 14 = .ok (.iload_n 1, 1) := by decide +kernel
theorem ddX2_hasLeave_15 : decode cX2_hasLeave 15 = .ok (.iadd, 1) := by decide +kernel
theorem ddX2_hasLeave_16 : decode cX2_hasLeave 16 = .ok (.iaload, 1) := by decide +kernel
theorem ddX2_hasLeave_17 : decode cX2_hasLeave 17 = .ok (.iload_n 2, 1) := by decide +kernel
theorem ddX2_hasLeave_18 : decode cX2_hasLeave 18 = .ok (.ishr, 1) := by decide +kernel
theorem ddX2_hasLeave_19 : decode cX2_hasLeave 19 = .ok (.iconst 1, 1) := by decide +kernel
theorem ddX2_hasLeave_20 : decode cX2_hasLeave 20 = .ok (.iand, 1) := by decide +kernel
theorem ddX2_hasLeave_21 : decode cX2_hasLeave 21 = .ok (.iconst 1, 1) := by decide +kernel
theorem ddX2_hasLeave_22 : decode cX2_hasLeave 22 = .ok (.if_icmp .ne 7, 3) := by decide +kernel
theorem ddX2_hasLeave_25 : decode cX2_hasLeave 25 = .ok (.iconst 1, 1) := by decide +kernel
theorem ddX2_hasLeave_26 : decode cX2_hasLeave 26 = .ok (.goto 4, 3) := by decide +kernel
theorem ddX2_hasLeave_29 : decode cX2_hasLeave 29 = .ok (.iconst 0, 1) := by decide +kernel
theorem ddX2_hasLeave_30 : decode cX2_hasLeave 30 = .ok (.ireturn, 1) := by decide +kernel
theorem ddX2_leaveTotal_0 : decode cX2_leaveTotal 0 = .ok (.aload_n 0, 1) := by decide +kernel
theorem ddX2_leaveTotal_1 : decode cX2_leaveTotal 1 = .ok (.iload_n 1, 1) := by decide +kernel
theorem ddX2_leaveTotal_2 : decode cX2_leaveTotal 2 = .ok (.invokevirtual 28, 3) := by decide +kernel
theorem ddX2_leaveTotal_5 : decode cX2_leaveTotal 5 = .ok (.ifCond .eq 18, 3) := by decide +kernel
theorem ddX2_leaveTotal_8 : decode cX2_leaveTotal 8 = .ok (.aload_n 0, 1) := by decide +kernel
theorem ddX2_leaveTotal_9 : decode cX2_leaveTotal 9 = .ok (.getfield 11, 3) := by decide +kernel
theorem ddX2_leaveTotal_12 : decode cX2_leaveTotal 12 = .ok (.bipush 29, 2) := by decide +kernel
theorem ddX2_leaveTotal_14 : decode cX2_leaveTotal 14 = .ok (.iload_n 1, 1) := by decide +kernel
theorem ddX2_leaveTotal_15 : decode cX2_leaveTotal 15 = .ok (.iadd, 1) := by decide +kernel
theorem ddX2_leaveTotal_16 : decode cX2_leaveTotal 16 = .ok (.iaload, 1) := by decide +kernel
theorem ddX2_leaveTotal_17 : decode cX2_leaveTotal 17 = .ok (.invokestatic 93, 3) := by decide +kernel
theorem ddX2_leaveTotal_20 : decode cX2_leaveTotal 20 = .ok (.goto 4, 3) := by decide +kernel
theorem ddX2_leaveTotal_23 : decode cX2_leaveTotal 23 = .ok (.iconst 0, 1) := by decide +kernel
theorem ddX2_leaveTotal_24 : decode cX2_leaveTotal 24 = .ok (.ireturn, 1) := by decide +kernel
theorem ddX2_addLeave_0 : decode cX2_addLeave 0 = .ok (.aload_n 0, 1) := by decide +kernel
theorem ddX2_addLeave_1 : decode cX2_addLeave 1 = .ok (.iload_n 1, 1) := by decide +kernel
theorem ddX2_addLeave_2 : decode cX2_addLeave 2 = .ok (.invokevirtual 98, 3) := by decide +kernel
theorem ddX2_addLeave_5 : decode cX2_addLeave 5 = .ok (.istore 4, 2) := by decide +kernel
theorem ddX2_addLeave_7 : decode cX2_addLeave 7 = .ok (.iload_n 2, 1) := by decide +kernel
theorem ddX2_addLeave_8 : decode cX2_addLeave 8 = .ok (.istore 5, 2) := by decide +kernel
theorem ddX2_addLeave_10 : decode cX2_addLeave 10 = .ok (.iload 5, 2) := by decide +kernel
theorem ddX2_addLeave_12 : decode cX2_addLeave 12 = .ok (.iload_n 3, 1) := by decide +kernel
theorem ddX2_addLeave_13 : decode cX2_addLeave 13 = .ok (.if_icmp .gt 40, 3) := by decide +kernel
theorem ddX2_addLeave_16 : decode cX2_addLeave 16 = .ok (.iload 5, 2) := by decide +kernel
theorem ddX2_addLeave_18 : decode cX2_addLeave 18 = .ok (.bipush 28, 2) := by decide +kernel
theorem ddX2_addLeave_20 : decode cX2_addLeave 20 = .ok (.if_icmp .ge 33, 3) := by decide +kernel
theorem ddX2_addLeave_23 : decode cX2_addLeave 23 = .ok (.aload_n 0, 1) := by decide +kernel
theorem ddX2_addLeave_24 : decode cX2_addLeave 24 = .ok (.iload_n 1, 1) := by decide +kernel
theorem ddX2_addLeave_25 : decode cX2_addLeave 25 = .ok (.invokevirtual 28, 3) := by decide +kernel
theorem ddX2_addLeave_28 : decode cX2_addLeave 28 = .ok (.ifCond .eq 19, 3) := by decide +kernel
theorem ddX2_addLeave_31 : decode cX2_addLeave 31 = .ok (.aload_n 0, 1) := by decide +kernel
theorem ddX2_addLeave_32 : decode cX2_addLeave 32 = .ok (.getfield 11, 3) := by decide +kernel
theorem ddX2_addLeave_35 : decode cX2_addLeave 35 = .ok (.bipush 29, 2) := by decide +kernel
theorem ddX2_addLeave_37 : decode cX2_addLeave 37 = .ok (.iload_n 1, 1) := by decide +kernel
theorem ddX2_addLeave_38 : decode cX2_addLeave 38 = .ok (.iadd, 1) := by decide +kernel
theorem ddX2_addLeave_39 : decode cX2_addLeave 39 = .ok (.dup2, 1) := by decide +kernel
theorem ddX2_addLeave_40 : decode cX2_addLeave 40 = .ok (.iaload, 1) := by decide +kernel
theorem ddX2_addLeave_41 : decode cX2_addLeave 41 = .ok (.iconst 1, 1) := by decide +kernel
theorem ddX2_addLeave_42 : decode cX2_addLeave 42 = .ok (.iload 5, 2) := by decide +kernel
theorem ddX2_addLeave_44 : decode cX2_addLeave 44 = .ok (.ishl, 1) := by decide +kernel
theorem ddX2_addLeave_45 : decode cX2_addLeave 45 = .ok (.ior, 1) := by decide +kernel
theorem ddX2_addLeave_46 : decode cX2_addLeave 46 = .ok (.iastore, 1) := by decide +kernel
theorem ddX2_addLeave_47 : decode cX2_addLeave 47 = .ok (.iinc 5 1, 3) := by decide +kernel
theorem ddX2_addLeave_50 : decode cX2_addLeave 50 = .ok (.goto (-40), 3) := by decide +kernel
theorem ddX2_addLeave_53 : decode cX2_addLeave 53 = .ok (.aload_n 0, 1) := by decide +kernel
theorem ddX2_addLeave_54 : decode cX2_addLeave 54 = .ok (.iload_n 1, 1) := by decide +kernel
theorem ddX2_addLeave_55 : decode cX2_addLeave 55 = .ok (.invokevirtual 98, 3) := by decide +kernel
theorem ddX2_addLeave_58 : decode cX2_addLeave 58 = .ok (.iload 4, 2) := by decide +kernel
theorem ddX2_addLeave_60 : decode cX2_addLeave 60 = .ok (.isub, 1) := by decide +kernel
theorem ddX2_addLeave_61 : decode cX2_addLeave 61 = .ok (.ireturn, 1) := by decide +kernel
theorem ddX2_dropLeave_0 : decode cX2_dropLeave 0 = .ok (.aload_n 0, 1) := by decide +kernel
theorem ddX2_dropLeave_1 : decode cX2_dropLeave 1 = .ok (.iload_n 1, 1) := by decide +kernel
theorem ddX2_dropLeave_2 : decode cX2_dropLeave 2 = .ok (.invokevirtual 28, 3) := by decide +kernel
theorem ddX2_dropLeave_5 : decode cX2_dropLeave 5 = .ok (.ifCond .eq 20, 3) := by decide +kernel
theorem ddX2_dropLeave_8 : decode cX2_dropLeave 8 = .ok (.aload_n 0, 1) := by decide +kernel
theorem ddX2_dropLeave_9 : decode cX2_dropLeave 9 = .ok (.getfield 11, 3) := by decide +kernel
theorem ddX2_dropLeave_12 : decode cX2_dropLeave 12 = .ok (.bipush 29, 2) := by decide +kernel
theorem ddX2_dropLeave_14 : decode cX2_dropLeave 14 = .ok (.iload_n 1, 1) := by decide +kernel
theorem ddX2_dropLeave_15 : decode cX2_dropLeave 15 = .ok (.iadd, 1) := by decide +kernel
theorem ddX2_dropLeave_16 : decode cX2_dropLeave 16 = .ok (.dup2, 1) := by decide +kernel
theorem ddX2_dropLeave_17 : decode cX2_dropLeave 17 = .ok (.iaload, 1) := by decide +kernel
theorem ddX2_dropLeave_18 : decode cX2_dropLeave 18 = .ok (.iconst 1, 1) := by decide +kernel
theorem ddX2_dropLeave_19 : decode cX2_dropLeave 19 = .ok (.iload_n 2, 1) := by decide +kernel
theorem ddX2_dropLeave_20 : decode cX2_dropLeave 20 = .ok (.ishl, 1) := by decide +kernel
theorem ddX2_dropLeave_21 : decode cX2_dropLeave 21 = .ok (.iconst (-1), 1) := by decide +kernel
theorem ddX2_dropLeave_22 : decode cX2_dropLeave 22 = .ok (.ixor, 1) := by decide +kernel
theorem ddX2_dropLeave_23 : decode cX2_dropLeave 23 = .ok (.iand, 1) := by decide +kernel
theorem ddX2_dropLeave_24 : decode cX2_dropLeave 24 = .ok (.iastore, 1) := by decide +kernel
theorem ddX2_dropLeave_25 : decode cX2_dropLeave 25 = .ok (.return_, 1) := by decide +kernel
theorem ddX2_store_0 : decode cX2_store 0 = .ok (.aload_n 0, 1) := by decide +kernel
theorem ddX2_store_1 : decode cX2_store 1 = .ok (.getfield 11, 3) := by decide +kernel
theorem ddX2_store_4 : decode cX2_store 4 = .ok (.iconst 2, 1) := by decide +kernel
theorem ddX2_store_5 : decode cX2_store 5 = .ok (.dup2, 1) := by decide +kernel
theorem ddX2_store_6 : decode cX2_store 6 = .ok (.iaload, 1) := by decide +kernel
theorem ddX2_store_7 : decode cX2_store 7 = .ok (.iload_n 1, 1) := by decide +kernel
theorem ddX2_store_8 : decode cX2_store 8 = .ok (.iadd, 1) := by decide +kernel
theorem ddX2_store_9 : decode cX2_store 9 = .ok (.iastore, 1) := by decide +kernel
theorem ddX2_store_10 : decode cX2_store 10 = .ok (.return_, 1) := by decide +kernel
theorem ddX2_letPass_0 : decode cX2_letPass 0 = .ok (.iconst 0, 1) := by decide +kernel
theorem ddX2_letPass_1 : decode cX2_letPass 1 = .ok (.istore_n 2, 1) := by decide +kernel
theorem ddX2_letPass_2 : decode cX2_letPass 2 = .ok (.iconst 0, 1) := by decide +kernel
theorem ddX2_letPass_3 : decode cX2_letPass 3 = .ok (.istore_n 3, 1) := by decide +kernel
theorem ddX2_letPass_4 : decode cX2_letPass 4 = .ok (.iload_n 3, 1) := by decide +kernel
theorem ddX2_letPass_5 : decode cX2_letPass 5 = .ok (.iload_n 1, 1) := by decide +kernel
theorem ddX2_letPass_6 : decode cX2_letPass 6 = .ok (.if_icmp .ge 43, 3) := by decide +kernel
theorem ddX2_letPass_9 : decode cX2_letPass 9 = .ok (.aload_n 0, 1) := by decide +kernel
theorem ddX2_letPass_10 : decode cX2_letPass 10 = .ok (.getfield 11, 3) := by decide +kernel
theorem ddX2_letPass_13 : decode cX2_letPass 13 = .ok (.iconst 3, 1) := by decide +kernel
theorem ddX2_letPass_14 : decode cX2_letPass 14 = .ok (.iaload, 1) := by decide +kernel
theorem ddX2_letPass_15 : decode cX2_letPass 15 = .ok (.bipush 28, 2) := by decide +kernel
theorem ddX2_letPass_17 : decode cX2_letPass 17 = .ok (.if_icmp .ge 32, 3) := by decide +kernel
theorem ddX2_letPass_20 : decode cX2_letPass 20 = .ok (.iload_n 2, 1) := by decide +kernel
theorem ddX2_letPass_21 : decode cX2_letPass 21 = .ok (.aload_n 0, 1) := by decide +kernel
theorem ddX2_letPass_22 : decode cX2_letPass 22 = .ok (.aload_n 0, 1) := by decide +kernel
theorem ddX2_letPass_23 : decode cX2_letPass 23 = .ok (.getfield 11, 3) := by decide +kernel
theorem ddX2_letPass_26 : decode cX2_letPass 26 = .ok (.iconst 3, 1) := by decide +kernel
theorem ddX2_letPass_27 : decode cX2_letPass 27 = .ok (.iaload, 1) := by decide +kernel
theorem ddX2_letPass_28 : decode cX2_letPass 28 = .ok (.invokevirtual 101, 3) := by decide +kernel
theorem ddX2_letPass_31 : decode cX2_letPass 31 = .ok (.iadd, 1) := by decide +kernel
theorem ddX2_letPass_32 : decode cX2_letPass 32 = .ok (.istore_n 2, 1) := by decide +kernel
theorem ddX2_letPass_33 : decode cX2_letPass 33 = .ok (.aload_n 0, 1) := by decide +kernel
theorem ddX2_letPass_34 : decode cX2_letPass 34 = .ok (.getfield 11, 3) := by decide +kernel
theorem ddX2_letPass_37 : decode cX2_letPass 37 = .ok (.iconst 3, 1) := by decide +kernel
theorem ddX2_letPass_38 : decode cX2_letPass 38 = .ok (.dup2, 1) := by decide +kernel
theorem ddX2_letPass_39 : decode cX2_letPass 39 = .ok (.iaload, 1) := by decide +kernel
theorem ddX2_letPass_40 : decode cX2_letPass 40 = .ok (.iconst 1, 1) := by decide +kernel
theorem ddX2_letPass_41 : decode cX2_letPass 41 = .ok (.iadd, 1) := by decide +kernel
theorem ddX2_letPass_42 : decode cX2_letPass 42 = .ok (.iastore, 1) := by decide +kernel
theorem ddX2_letPass_43 : decode cX2_letPass 43 = .ok (.iinc 3 1, 3) := by decide +kernel
theorem ddX2_letPass_46 : decode cX2_letPass 46 = .ok (.goto (-42), 3) := by decide +kernel
theorem ddX2_letPass_49 : decode cX2_letPass 49 = .ok (.iload_n 2, 1) := by decide +kernel
theorem ddX2_letPass_50 : decode cX2_letPass 50 = .ok (.ireturn, 1) := by decide +kernel
theorem ddX2_feedGuardsOf_0 : decode cX2_feedGuardsOf 0 = .ok (.iconst 0, 1) := by decide +kernel
theorem ddX2_feedGuardsOf_1 : decode cX2_feedGuardsOf 1 = .ok (.istore_n 2, 1) := by decide +kernel
theorem ddX2_feedGuardsOf_2 : decode cX2_feedGuardsOf 2 = .ok (.iconst 0, 1) := by decide +kernel
theorem ddX2_feedGuardsOf_3 : decode cX2_feedGuardsOf 3 = .ok (.istore_n 3, 1) := by decide +kernel
theorem ddX2_feedGuardsOf_4 : decode cX2_feedGuardsOf 4 = .ok (.iload_n 3, 1) := by decide +kernel
theorem ddX2_feedGuardsOf_5 : decode cX2_feedGuardsOf 5 = .ok (.aload_n 0, 1) := by decide +kernel
theorem ddX2_feedGuardsOf_6 : decode cX2_feedGuardsOf 6 = .ok (.invokevirtual 43, 3) := by decide +kernel
theorem ddX2_feedGuardsOf_9 : decode cX2_feedGuardsOf 9 = .ok (.if_icmp .ge 74, 3) := by decide +kernel
theorem ddX2_feedGuardsOf_12 : decode cX2_feedGuardsOf 12 = .ok (.aload_n 0, 1) := by decide +kernel
theorem ddX2_feedGuardsOf_13 : decode cX2_feedGuardsOf 13 = .ok (.iload_n 3, 1) := by decide +kernel
theorem ddX2_feedGuardsOf_14 : decode cX2_feedGuardsOf 14 = .ok (.iload_n 1, 1) := by decide +kernel
theorem ddX2_feedGuardsOf_15 : decode cX2_feedGuardsOf 15 = .ok (.invokevirtual 51, 3) := by decide +kernel
theorem ddX2_feedGuardsOf_18 : decode cX2_feedGuardsOf 18 = .ok (.istore 4, 2) := by decide +kernel
theorem ddX2_feedGuardsOf_20 : decode cX2_feedGuardsOf 20 = .ok (.aload_n 0, 1) := by decide +kernel
theorem ddX2_feedGuardsOf_21 : decode cX2_feedGuardsOf 21 = .ok (.iload 4, 2) := by decide +kernel
theorem ddX2_feedGuardsOf_23 : decode cX2_feedGuardsOf 23 = .ok (.invokevirtual 28, 3) := by decide +kernel
theorem ddX2_feedGuardsOf_26 : decode cX2_feedGuardsOf 26 = .ok (.ifCond .eq 25, 3) := by decide +kernel
theorem ddX2_feedGuardsOf_29 : decode cX2_feedGuardsOf 29 = .ok (.aload_n 0, 1) := by decide +kernel
theorem ddX2_feedGuardsOf_30 : decode cX2_feedGuardsOf 30 = .ok (.getfield 11, 3) := by decide +kernel
theorem ddX2_feedGuardsOf_33 : decode cX2_feedGuardsOf 33 = .ok (.iconst 2, 1) := by decide +kernel
theorem ddX2_feedGuardsOf_34 : decode cX2_feedGuardsOf 34 = .ok (.iaload, 1) := by decide +kernel
theorem ddX2_feedGuardsOf_35 : decode cX2_feedGuardsOf 35 = .ok (.ifCond .le 16, 3) := by decide +kernel
theorem ddX2_feedGuardsOf_38 : decode cX2_feedGuardsOf 38 = .ok (.aload_n 0, 1) := by decide +kernel
theorem ddX2_feedGuardsOf_39 : decode cX2_feedGuardsOf 39 = .ok (.getfield 11, 3) := by decide +kernel
theorem ddX2_feedGuardsOf_42 : decode cX2_feedGuardsOf 42 = .ok (.iconst 2, 1) := by decide +kernel
theorem ddX2_feedGuardsOf_43 : decode cX2_feedGuardsOf 43 = .ok (.dup2, 1) := by decide +kernel
theorem ddX2_feedGuardsOf_44 : decode cX2_feedGuardsOf 44 = .ok (.iaload, 1) := by decide +kernel
theorem ddX2_feedGuardsOf_45 : decode cX2_feedGuardsOf 45 = .ok (.iconst 1, 1) := by decide +kernel
theorem ddX2_feedGuardsOf_46 : decode cX2_feedGuardsOf 46 = .ok (.isub, 1) := by decide +kernel
theorem ddX2_feedGuardsOf_47 : decode cX2_feedGuardsOf 47 = .ok (.iastore, 1) := by decide +kernel
theorem ddX2_feedGuardsOf_48 : decode cX2_feedGuardsOf 48 = .ok (.goto 29, 3) := by decide +kernel
theorem ddX2_feedGuardsOf_51 : decode cX2_feedGuardsOf 51 = .ok (.aload_n 0, 1) := by decide +kernel
theorem ddX2_feedGuardsOf_52 : decode cX2_feedGuardsOf 52 = .ok (.iload 4, 2) := by decide +kernel
theorem ddX2_feedGuardsOf_54 : decode cX2_feedGuardsOf 54 = .ok (.invokevirtual 28, 3) := by decide +kernel
theorem ddX2_feedGuardsOf_57 : decode cX2_feedGuardsOf 57 = .ok (.ifCond .eq 20, 3) := by decide +kernel
theorem ddX2_feedGuardsOf_60 : decode cX2_feedGuardsOf 60 = .ok (.aload_n 0, 1) := by decide +kernel
theorem ddX2_feedGuardsOf_61 : decode cX2_feedGuardsOf 61 = .ok (.getfield 11, 3) := by decide +kernel
theorem ddX2_feedGuardsOf_64 : decode cX2_feedGuardsOf 64 = .ok (.bipush 19, 2) := by decide +kernel
theorem ddX2_feedGuardsOf_66 : decode cX2_feedGuardsOf 66 = .ok (.iload 4, 2) := by decide +kernel
theorem ddX2_feedGuardsOf_68 : decode cX2_feedGuardsOf 68 = .ok (.iadd, 1) := by decide +kernel
theorem ddX2_feedGuardsOf_69 : decode cX2_feedGuardsOf 69 = .ok (.dup2, 1) := by decide +kernel
theorem ddX2_feedGuardsOf_70 : decode cX2_feedGuardsOf 70 = .ok (.iaload, 1) := by decide +kernel
theorem ddX2_feedGuardsOf_71 : decode cX2_feedGuardsOf 71 = .ok (.iconst 1, 1) := by decide +kernel
theorem ddX2_feedGuardsOf_72 : decode cX2_feedGuardsOf 72 = .ok (.iadd, 1) := by decide +kernel
theorem ddX2_feedGuardsOf_73 : decode cX2_feedGuardsOf 73 = .ok (.iastore, 1) := by decide +kernel
theorem ddX2_feedGuardsOf_74 : decode cX2_feedGuardsOf 74 = .ok (.iinc 2 1, 3) := by decide +kernel
theorem ddX2_feedGuardsOf_77 : decode cX2_feedGuardsOf 77 = .ok (.iinc 3 1, 3) := by decide +kernel
theorem ddX2_feedGuardsOf_80 : decode cX2_feedGuardsOf 80 = .ok (.goto (-76), 3) := by decide +kernel
theorem ddX2_feedGuardsOf_83 : decode cX2_feedGuardsOf 83 = .ok (.iload_n 2, 1) := by decide +kernel
theorem ddX2_feedGuardsOf_84 : decode cX2_feedGuardsOf 84 = .ok (.ireturn, 1) := by decide +kernel
theorem ddX3_init_0 : decode cX3_init 0 = .ok (.aload_n 0, 1) := by decide +kernel
theorem ddX3_init_1 : decode cX3_init 1 = .ok (.invokespecial 3, 3) := by decide +kernel
theorem ddX3_init_4 : decode cX3_init 4 = .ok (.aload_n 0, 1) := by decide +kernel
theorem ddX3_init_5 : decode cX3_init 5 = .ok (.iconst 5, 1) := by decide +kernel
theorem ddX3_init_6 : decode cX3_init 6 = .ok (.newarray .int, 2) := by decide +kernel
theorem ddX3_init_8 : decode cX3_init 8 = .ok (.putfield 9, 3) := by decide +kernel
theorem ddX3_init_11 : decode cX3_init 11 = .ok (.aload_n 0, 1) := by decide +kernel
theorem ddX3_init_12 : decode cX3_init 12 = .ok (.bipush 10, 2) := by decide +kernel
theorem ddX3_init_14 : decode cX3_init 14 = .ok (.newarray .int, 2) := by decide +kernel
theorem ddX3_init_16 : decode cX3_init 16 = .ok (.putfield 15, 3) := by decide +kernel
theorem ddX3_init_19 : decode cX3_init 19 = .ok (.aload_n 0, 1) := by decide +kernel
theorem ddX3_init_20 : decode cX3_init 20 = .ok (.bipush 32, 2) := by decide +kernel
theorem ddX3_init_22 : decode cX3_init 22 = .ok (.newarray .int, 2) := by decide +kernel
theorem ddX3_init_24 : decode cX3_init 24 = .ok (.putfield 18, 3) := by decide +kernel
theorem ddX3_init_27 : decode cX3_init 27 = .ok (.return_, 1) := by decide +kernel
theorem ddX3_prepare_0 : decode cX3_prepare 0 = .ok (.iconst 0, 1) := by decide +kernel
theorem ddX3_prepare_1 : decode cX3_prepare 1 = .ok (.istore_n 3, 1) := by decide +kernel
theorem ddX3_prepare_2 : decode cX3_prepare 2 = .ok (.iload_n 3, 1) := by decide +kernel
theorem ddX3_prepare_3 : decode cX3_prepare 3 = .ok (.iconst 5, 1) := by decide +kernel
theorem ddX3_prepare_4 : decode cX3_prepare 4 = .ok (.if_icmp .ge 33, 3) := by decide +kernel
theorem ddX3_prepare_7 : decode cX3_prepare 7 = .ok (.aload_n 0, 1) := by decide +kernel
theorem ddX3_prepare_8 : decode cX3_prepare 8 = .ok (.getfield 9, 3) := by decide +kernel
theorem ddX3_prepare_11 : decode cX3_prepare 11 = .ok (.iload_n 3, 1) := by decide +kernel
theorem ddX3_prepare_12 : decode cX3_prepare 12 = .ok (.aload_n 1, 1) := by decide +kernel
theorem ddX3_prepare_13 : decode cX3_prepare 13 = .ok (.iload_n 3, 1) := by decide +kernel
theorem ddX3_prepare_14 : decode cX3_prepare 14 = .ok (.invokevirtual 21, 3) := by decide +kernel
theorem ddX3_prepare_17 : decode cX3_prepare 17 = .ok (.ifCond .eq 12, 3) := by decide +kernel
theorem ddX3_prepare_20 : decode cX3_prepare 20 = .ok (.aload_n 1, 1) := by decide +kernel
theorem ddX3_prepare_21 : decode cX3_prepare 21 = .ok (.iload_n 3, 1) := by decide +kernel
theorem ddX3_prepare_22 : decode cX3_prepare 22 = .ok (.iload_n 2, 1) := by decide +kernel
theorem ddX3_prepare_23 : decode cX3_prepare 23 = .ok (.invokestatic 27, 3) := by decide +kernel
theorem ddX3_prepare_26 : decode cX3_prepare 26 = .ok (.goto 4, 3) := by decide +kernel
theorem ddX3_prepare_29 : decode cX3_prepare 29 = .ok (.iconst 0, 1) := by decide +kernel
theorem ddX3_prepare_30 : decode cX3_prepare 30 = .ok (.iastore, 1) := by decide +kernel
theorem ddX3_prepare_31 : decode cX3_prepare 31 = .ok (.iinc 3 1, 3) := by decide +kernel
theorem ddX3_prepare_34 : decode cX3_prepare 34 = .ok (.goto (-32), 3) := by decide +kernel
theorem ddX3_prepare_37 : decode cX3_prepare 37 = .ok (.return_, 1) := by decide +kernel
theorem ddX3_guardsThatFit_0 : decode cX3_guardsThatFit 0 = .ok (.iconst 0, 1) := by decide +kernel
theorem ddX3_guardsThatFit_1 : decode cX3_guardsThatFit 1 = .ok (.istore_n 3, 1) := by decide +kernel
theorem ddX3_guardsThatFit_2 : decode cX3_guardsThatFit 2 = .ok (.iconst 0, 1) := by decide +kernel
theorem ddX3_guardsThatFit_3 : decode cX3_guardsThatFit 3 = .ok (.istore 4, 2) := by decide +kernel
theorem ddX3_guardsThatFit_5 : decode cX3_guardsThatFit 5 = .ok (.iload 4, 2) := by decide +kernel
theorem ddX3_guardsThatFit_7 : decode cX3_guardsThatFit 7 = .ok (.aload_n 0, 1) := by decide +kernel
theorem ddX3_guardsThatFit_8 : decode cX3_guardsThatFit 8 = .ok (.invokevirtual 31, 3) := by decide +kernel
theorem ddX3_guardsThatFit_11 : decode cX3_guardsThatFit 11 = .ok (.if_icmp .ge 27, 3) := by decide +kernel
theorem ddX3_guardsThatFit_14 : decode cX3_guardsThatFit 14 = .ok (.aload_n 0, 1) := by decide +kernel
theorem ddX3_guardsThatFit_15 : decode cX3_guardsThatFit 15 = .ok (.iload_n 1, 1) := by decide +kernel
theorem ddX3_guardsThatFit_16 : decode cX3_guardsThatFit 16 = .ok (.iload_n 2, 1) := by decide +kernel
theorem ddX3_guardsThatFit_17 : decode cX3_guardsThatFit 17 = .ok (.iload 4, 2) := by decide +kernel
theorem ddX3_guardsThatFit_19 : decode cX3_guardsThatFit 19 = .ok (.invokevirtual 35, 3) := by decide +kernel
theorem ddX3_guardsThatFit_22 : decode cX3_guardsThatFit 22 = .ok (.ifCond .ne 10, 3) := by decide +kernel
theorem ddX3_guardsThatFit_25 : decode cX3_guardsThatFit 25 = .ok (.iload_n 3, 1) := by decide +kernel
theorem ddX3_guardsThatFit_26 : decode cX3_guardsThatFit 26 = .ok (.iconst 1, 1) := by decide +kernel
theorem ddX3_guardsThatFit_27 : decode cX3_guardsThatFit 27 = .ok (.iload 4, 2) := by decide +kernel
theorem ddX3_guardsThatFit_29 : decode cX3_guardsThatFit 29 = .ok (.ishl, 1) := by decide +kernel
theorem ddX3_guardsThatFit_30 : decode cX3_guardsThatFit 30 = .ok (.ior, 1) := by decide +kernel
theorem ddX3_guardsThatFit_31 : decode cX3_guardsThatFit 31 = .ok (.istore_n 3, 1) := by decide +kernel
theorem ddX3_guardsThatFit_32 : decode cX3_guardsThatFit 32 = .ok (.iinc 4 1, 3) := by decide +kernel
theorem ddX3_guardsThatFit_35 : decode cX3_guardsThatFit 35 = .ok (.goto (-30), 3) := by decide +kernel
theorem ddX3_guardsThatFit_38 : decode cX3_guardsThatFit 38 = .ok (.iload_n 3, 1) := by decide +kernel
theorem ddX3_guardsThatFit_39 : decode cX3_guardsThatFit 39 = .ok (.ireturn, 1) := by decide +kernel
theorem ddX3_countByPaths_0 : decode cX3_countByPaths 0 = .ok (.iconst 0, 1) := by decide +kernel
theorem ddX3_countByPaths_1 : decode cX3_countByPaths 1 = .ok (.istore_n 1, 1) := by decide +kernel
theorem ddX3_countByPaths_2 : decode cX3_countByPaths 2 = .ok (.iload_n 1, 1) := by decide +kernel
theorem ddX3_countByPaths_3 : decode cX3_countByPaths 3 = .ok (.bipush 10, 2) := by decide +kernel
theorem ddX3_countByPaths_5 : decode cX3_countByPaths 5 = .ok (.if_icmp .ge 16, 3) := by decide +kernel
theorem ddX3_countByPaths_8 : decode cX3_countByPaths 8 = .ok (.aload_n 0, 1) := by decide +kernel
theorem ddX3_countByPaths_9 : decode cX3_countByPaths 9 = .ok (.getfield 15, 3) := by decide +kernel
theorem ddX3_countByPaths_12 : decode cX3_countByPaths 12 = .ok (.iload_n 1, 1) := by decide +kernel
theorem ddX3_countByPaths_13 : decode cX3_countByPaths 13 = .ok (.iconst 0, 1) := by decide +kernel
theorem ddX3_countByPaths_14 : decode cX3_countByPaths 14 = .ok (.iastore, 1) := by decide +kernel
theorem ddX3_countByPaths_15 : decode cX3_countByPaths 15 = .ok (.iinc 1 1, 3) := by decide +kernel
theorem ddX3_countByPaths_18 : decode cX3_countByPaths 18 = .ok (.goto (-16), 3) := by decide +kernel
theorem ddX3_countByPaths_21 : decode cX3_countByPaths 21 = .ok (.iconst 0, 1) := by decide +kernel
theorem ddX3_countByPaths_22 : decode cX3_countByPaths 22 = .ok (.istore_n 1, 1) := by decide +kernel
theorem ddX3_countByPaths_23 : decode cX3_countByPaths 23 = .ok (.iconst 0, 1) := by decide +kernel
theorem ddX3_countByPaths_24 : decode cX3_countByPaths 24 = .ok (.istore_n 2, 1) := by decide +kernel
theorem ddX3_countByPaths_25 : decode cX3_countByPaths 25 = .ok (.iload_n 2, 1) := by decide +kernel
theorem ddX3_countByPaths_26 : decode cX3_countByPaths 26 = .ok (.iconst 5, 1) := by decide +kernel
theorem ddX3_countByPaths_27 : decode cX3_countByPaths 27 = .ok (.if_icmp .ge 26, 3) := by decide +kernel
theorem ddX3_countByPaths_30 : decode cX3_countByPaths 30 = .ok (.aload_n 0, 1) := by decide +kernel
theorem ddX3_countByPaths_31 : decode cX3_countByPaths 31 = .ok (.iconst 0, 1) := by decide +kernel
theorem ddX3_countByPaths_32 : decode cX3_countByPaths 32 = .ok (.putfield 39, 3) := by decide +kernel
theorem ddX3_countByPaths_35 : decode cX3_countByPaths 35 = .ok (.aload_n 0, 1) := by decide +kernel
theorem ddX3_countByPaths_36 : decode cX3_countByPaths 36 = .ok (.iload_n 2, 1) := by decide +kernel
theorem ddX3_countByPaths_37 : decode cX3_countByPaths 37 = .ok (.iconst 0, 1) := by decide +kernel
theorem ddX3_countByPaths_38 : decode cX3_countByPaths 38 = .ok (.invokestatic 43, 3) := by decide +kernel
theorem ddX3_countByPaths_41 : decode cX3_countByPaths 41 = .ok (.ifCond .eq 6, 3) := by decide +kernel
theorem ddX3_countByPaths_44 : decode cX3_countByPaths 44 = .ok (.iinc 1 1, 3) := by decide +kernel
theorem ddX3_countByPaths_47 : decode cX3_countByPaths 47 = .ok (.iinc 2 1, 3) := by decide +kernel
theorem ddX3_countByPaths_50 : decode cX3_countByPaths 50 = .ok (.goto (-25), 3) := by decide +kernel
theorem ddX3_countByPaths_53 : decode cX3_countByPaths 53 = .ok (.iload_n 1, 1) := by decide +kernel
theorem ddX3_countByPaths_54 : decode cX3_countByPaths 54 = .ok (.ireturn, 1) := by decide +kernel
theorem ddX3_finds_0 : decode cX3_finds 0 = .ok (.iload_n 2, 1) := by decide +kernel
theorem ddX3_finds_1 : decode cX3_finds 1 = .ok (.iconst 5, 1) := by decide +kernel
theorem ddX3_finds_2 : decode cX3_finds 2 = .ok (.if_icmp .ge 12, 3) := by decide +kernel
theorem ddX3_finds_5 : decode cX3_finds 5 = .ok (.iload_n 1, 1) := by decide +kernel
theorem ddX3_finds_6 : decode cX3_finds 6 = .ok (.ifCond .lt 8, 3) := by decide +kernel
theorem ddX3_finds_9 : decode cX3_finds 9 = .ok (.iload_n 1, 1) := by decide +kernel
theorem ddX3_finds_10 : decode cX3_finds 10 = .ok (.iconst 5, 1) := by decide +kernel
theorem ddX3_finds_11 : decode cX3_finds 11 = .ok (.if_icmp .lt 5, 3) := by decide +kernel
theorem ddX3_finds_14 : decode cX3_finds 14 = .ok (.iconst 0, 1) := by decide +kernel
theorem ddX3_finds_15 : decode cX3_finds 15 = .ok (.ireturn, 1) := by decide +kernel
theorem ddX3_finds_16 : decode cX3_finds 16 = .ok (.iconst 0, 1) := by decide +kernel
theorem ddX3_finds_17 : decode cX3_finds 17 = .ok (.istore_n 3, 1) := by decide +kernel
theorem ddX3_finds_18 : decode cX3_finds 18 = .ok (.iload_n 3, 1) := by decide +kernel
theorem ddX3_finds_19 : decode cX3_finds 19 = .ok (.bipush 10, 2) := by decide +kernel
theorem ddX3_finds_21 : decode cX3_finds 21 = .ok (.if_icmp .ge 85, 3) := by decide +kernel
theorem ddX3_finds_24 : decode cX3_finds 24 = .ok (.iconst 1, 1) := by decide +kernel
theorem ddX3_finds_25 : decode cX3_finds 25 = .ok (.iload_n 3, 1) := by decide +kernel
theorem ddX3_finds_26 : decode cX3_finds 26 = .ok (.ishl, 1) := by decide +kernel
theorem ddX3_finds_27 : decode cX3_finds 27 = .ok (.istore 4, 2) := by decide +kernel
theorem ddX3_finds_29 : decode cX3_finds 29 = .ok (.aload_n 0, 1) := by decide +kernel
theorem ddX3_finds_30 : decode cX3_finds 30 = .ok (.getfield 9, 3) := by decide +kernel
theorem ddX3_finds_33 : decode cX3_finds 33 = .ok (.iload_n 1, 1) := by decide +kernel
theorem ddX3_finds_34 : decode cX3_finds 34 = .ok (.iaload, 1) := by decide +kernel
theorem ddX3_finds_35 : decode cX3_finds 35 = .ok (.iload 4, 2) := by decide +kernel
theorem ddX3_finds_37 : decode cX3_finds 37 = .ok (.iand, 1) := by decide +kernel
theorem ddX3_finds_38 : decode cX3_finds 38 = .ok (.ifCond .eq 62, 3) := by decide +kernel
theorem ddX3_finds_41 : decode cX3_finds 41 = .ok (.aload_n 0, 1) := by decide +kernel
theorem ddX3_finds_42 : decode cX3_finds 42 = .ok (.getfield 39, 3) := by decide +kernel
theorem ddX3_finds_45 : decode cX3_finds 45 = .ok (.iload 4, 2) := by decide +kernel
theorem ddX3_finds_47 : decode cX3_finds 47 = .ok (.iand, 1) := by decide +kernel
theorem ddX3_finds_48 : decode cX3_finds 48 = .ok (.ifCond .ne 52, 3) := by decide +kernel
theorem ddX3_finds_51 : decode cX3_finds 51 = .ok (.aload_n 0, 1) := by decide +kernel
theorem ddX3_finds_52 : decode cX3_finds 52 = .ok (.dup, 1) := by decide +kernel
theorem ddX3_finds_53 : decode cX3_finds 53 = .ok (.getfield 39, 3) := by decide +kernel
theorem ddX3_finds_56 : decode cX3_finds 56 = .ok (.iload 4, 2) := by decide +kernel
theorem ddX3_finds_58 : decode cX3_finds 58 = .ok (.ior, 1) := by decide +kernel
theorem ddX3_finds_59 : decode cX3_finds 59 = .ok (.putfield 39, 3) := by decide +kernel
theorem ddX3_finds_62 : decode cX3_finds 62 = .ok (.aload_n 0, 1) := by decide +kernel
theorem ddX3_finds_63 : decode cX3_finds 63 = .ok (.getfield 15, 3) := by decide +kernel
theorem ddX3_finds_66 : decode cX3_finds 66 = .ok (.iload_n 3, 1) := by decide +kernel
theorem ddX3_finds_67 : decode cX3_finds 67 = .ok (.iaload, 1) := by decide +kernel
theorem ddX3_finds_68 : decode cX3_finds 68 = .ok (.istore 5, 2) := by decide +kernel
theorem ddX3_finds_70 : decode cX3_finds 70 = .ok (.iload 5, 2) := by decide +kernel
theorem ddX3_finds_72 : decode cX3_finds 72 = .ok (.ifCond .eq 17, 3) := by decide +kernel
theorem ddX3_finds_75 : decode cX3_finds 75 = .ok (.aload_n 0, 1) := by decide +kernel
theorem ddX3_finds_76 : decode cX3_finds 76 = .ok (.iload 5, 2) := by decide +kernel
theorem ddX3_finds_78 : decode cX3_finds 78 = .ok (.iconst 1, 1) := by decide +kernel
theorem ddX3_finds_79 : decode cX3_finds 79 = .ok (.isub, 1) := by decide +kernel
theorem ddX3_finds_80 : decode cX3_finds 80 = .ok (.iload_n 2, 1) := by decide +kernel
theorem ddX3_finds_81 : decode cX3_finds 81 = .ok (.iconst 1, 1) := by decide +kernel
theorem ddX3_finds_82 : decode cX3_finds 82 = .ok (.iadd, 1) := by decide +kernel
theorem ddX3_finds_83 : decode cX3_finds 83 = .ok (.invokestatic 43, 3) := by decide +kernel
theorem ddX3_finds_86 : decode cX3_finds 86 = .ok (.ifCond .eq 14, 3) := by decide +kernel
theorem ddX3_finds_89 : decode cX3_finds 89 = .ok (.aload_n 0, 1) := by decide +kernel
theorem ddX3_finds_90 : decode cX3_finds 90 = .ok (.getfield 15, 3) := by decide +kernel
theorem ddX3_finds_93 : decode cX3_finds 93 = .ok (.iload_n 3, 1) := by decide +kernel
theorem ddX3_finds_94 : decode cX3_finds 94 = .ok (.iload_n 1, 1) := by decide +kernel
theorem ddX3_finds_95 : decode cX3_finds 95 = .ok (.iconst 1, 1) := by decide +kernel
theorem ddX3_finds_96 : decode cX3_finds 96 = .ok (.iadd, 1) := by decide +kernel
theorem ddX3_finds_97 : decode cX3_finds 97 = .ok (.iastore, 1) := by decide +kernel
theorem ddX3_finds_98 : decode cX3_finds 98 = .ok (.iconst 1, 1) := by decide +kernel
theorem ddX3_finds_99 : decode cX3_finds 99 = .ok (.ireturn, 1) := by decide +kernel
theorem ddX3_finds_100 : decode cX3_finds 100 = .ok (.iinc 3 1, 3) := by decide +kernel
theorem ddX3_finds_103 : decode cX3_finds 103 = .ok (.goto (-85), 3) := by decide +kernel
theorem ddX3_finds_106 : decode cX3_finds 106 = .ok (.iconst 0, 1) := by decide +kernel
theorem ddX3_finds_107 : decode cX3_finds 107 = .ok (.ireturn, 1) := by decide +kernel
theorem ddX3_countBySets_0 : decode cX3_countBySets 0 = .ok (.iconst 0, 1) := by decide +kernel
theorem ddX3_countBySets_1 : decode cX3_countBySets 1 = .ok (.istore_n 1, 1) := by decide +kernel
theorem ddX3_countBySets_2 : decode cX3_countBySets 2 = .ok (.iconst 1, 1) := by decide +kernel
theorem ddX3_countBySets_3 : decode cX3_countBySets 3 = .ok (.istore_n 2, 1) := by decide +kernel
theorem ddX3_countBySets_4 : decode cX3_countBySets 4 = .ok (.iload_n 2, 1) := by decide +kernel
theorem ddX3_countBySets_5 : decode cX3_countBySets 5 = .ok (.bipush 32, 2) := by decide +kernel
theorem ddX3_countBySets_7 : decode cX3_countBySets 7 = .ok (.if_icmp .ge 65, 3) := by decide +kernel
theorem ddX3_countBySets_10 : decode cX3_countBySets 10 = .ok (.iload_n 2, 1) := by decide +kernel
theorem ddX3_countBySets_11 : decode cX3_countBySets 11 = .ok (.invokestatic 47, 3) := by decide +kernel
theorem ddX3_countBySets_14 : decode cX3_countBySets 14 = .ok (.istore_n 3, 1) := by decide +kernel
theorem ddX3_countBySets_15 : decode cX3_countBySets 15 = .ok (.iload_n 3, 1) := by decide +kernel
theorem ddX3_countBySets_16 : decode cX3_countBySets 16 = .ok (.iconst 5, 1) := by decide +kernel
theorem ddX3_countBySets_17 : decode cX3_countBySets 17 = .ok (.if_icmp .ge 26, 3) := by decide +kernel
theorem ddX3_countBySets_20 : decode cX3_countBySets 20 = .ok (.aload_n 0, 1) := by decide +kernel
theorem ddX3_countBySets_21 : decode cX3_countBySets 21 = .ok (.getfield 18, 3) := by decide +kernel
theorem ddX3_countBySets_24 : decode cX3_countBySets 24 = .ok (.iload_n 2, 1) := by decide +kernel
theorem ddX3_countBySets_25 : decode cX3_countBySets 25 = .ok (.aload_n 0, 1) := by decide +kernel
theorem ddX3_countBySets_26 : decode cX3_countBySets 26 = .ok (.getfield 18, 3) := by decide +kernel
theorem ddX3_countBySets_29 : decode cX3_countBySets 29 = .ok (.iload_n 2, 1) := by decide +kernel
theorem ddX3_countBySets_30 : decode cX3_countBySets 30 = .ok (.iload_n 2, 1) := by decide +kernel
theorem ddX3_countBySets_31 : decode cX3_countBySets 31 = .ok (.iconst 1, 1) := by decide +kernel
theorem ddX3_countBySets_32 : decode cX3_countBySets 32 = .ok (.isub, 1) := by decide +kernel
theorem ddX3_countBySets_33 : decode cX3_countBySets 33 = .ok (.iand, 1) := by decide +kernel
theorem ddX3_countBySets_34 : decode cX3_countBySets 34 = .ok (.iaload, 1) := by decide +kernel
theorem ddX3_countBySets_35 : decode cX3_countBySets 35 = .ok (.aload_n 0, 1) := by decide +kernel
theorem ddX3_countBySets_36 : decode cX3_countBySets 36 = .ok (.getfield 9, 3) := by decide +kernel
theorem ddX3_countBySets_39 : decode cX3_countBySets 39 = .ok (.iload_n 3, 1) := by decide +kernel
theorem ddX3_countBySets_40 : decode cX3_countBySets 40 = .ok (.iaload, 1) := by decide +kernel
theorem ddX3_countBySets_41 : decode cX3_countBySets 41 = .ok (.ior, 1) := by decide +kernel
theorem ddX3_countBySets_42 : decode cX3_countBySets 42 = .ok (.iastore, 1) := by decide +kernel
theorem ddX3_countBySets_43 : decode cX3_countBySets 43 = .ok (.iload_n 2, 1) := by decide +kernel
theorem ddX3_countBySets_44 : decode cX3_countBySets 44 = .ok (.invokestatic 53, 3) := by decide +kernel
theorem ddX3_countBySets_47 : decode cX3_countBySets 47 = .ok (.aload_n 0, 1) := by decide +kernel
theorem ddX3_countBySets_48 : decode cX3_countBySets 48 = .ok (.getfield 18, 3) := by decide +kernel
theorem ddX3_countBySets_51 : decode cX3_countBySets 51 = .ok (.iload_n 2, 1) := by decide +kernel
theorem ddX3_countBySets_52 : decode cX3_countBySets 52 = .ok (.iaload, 1) := by decide +kernel
theorem ddX3_countBySets_53 : decode cX3_countBySets 53 = .ok (.invokestatic 53, 3) := by decide +kernel
theorem ddX3_countBySets_56 : decode cX3_countBySets 56 = .ok (.isub, 1) := by decide +kernel
theorem ddX3_countBySets_57 : decode cX3_countBySets 57 = .ok (.istore 4, 2) := by decide +kernel
theorem ddX3_countBySets_59 : decode cX3_countBySets 59 = .ok (.iload_n 1, 1) := by decide +kernel
theorem ddX3_countBySets_60 : decode cX3_countBySets 60 = .ok (.iload 4, 2) := by decide +kernel
theorem ddX3_countBySets_62 : decode cX3_countBySets 62 = .ok (.invokestatic 56, 3) := by decide +kernel
theorem ddX3_countBySets_65 : decode cX3_countBySets 65 = .ok (.istore_n 1, 1) := by decide +kernel
theorem ddX3_countBySets_66 : decode cX3_countBySets 66 = .ok (.iinc 2 1, 3) := by decide +kernel
theorem ddX3_countBySets_69 : decode cX3_countBySets 69 = .ok (.goto (-65), 3) := by decide +kernel
theorem ddX3_countBySets_72 : decode cX3_countBySets 72 = .ok (.iconst 5, 1) := by decide +kernel
theorem ddX3_countBySets_73 : decode cX3_countBySets 73 = .ok (.iload_n 1, 1) := by decide +kernel
theorem ddX3_countBySets_74 : decode cX3_countBySets 74 = .ok (.isub, 1) := by decide +kernel
theorem ddX3_countBySets_75 : decode cX3_countBySets 75 = .ok (.ireturn, 1) := by decide +kernel
theorem ddX4_init_0 : decode cX4_init 0 = .ok (.aload_n 0, 1) := by decide +kernel
theorem ddX4_init_1 : decode cX4_init 1 = .ok (.invokespecial 1, 3) := by decide +kernel
theorem ddX4_init_4 : decode cX4_init 4 = .ok (.aload_n 0, 1) := by decide +kernel
theorem ddX4_init_5 : decode cX4_init 5 = .ok (.new 7, 3) := by decide +kernel
theorem ddX4_init_8 : decode cX4_init 8 = .ok (.dup, 1) := by decide +kernel
theorem ddX4_init_9 : decode cX4_init 9 = .ok (.invokespecial 9, 3) := by decide +kernel
theorem ddX4_init_12 : decode cX4_init 12 = .ok (.putfield 10, 3) := by decide +kernel
theorem ddX4_init_15 : decode cX4_init 15 = .ok (.aload_n 0, 1) := by decide +kernel
theorem ddX4_init_16 : decode cX4_init 16 = .ok (.new 16, 3) := by decide +kernel
theorem ddX4_init_19 : decode cX4_init 19 = .ok (.dup, 1) := by decide +kernel
theorem ddX4_init_20 : decode cX4_init 20 = .ok (.invokespecial 18, 3) := by decide +kernel
theorem ddX4_init_23 : decode cX4_init 23 = .ok (.putfield 19, 3) := by decide +kernel
theorem ddX4_init_26 : decode cX4_init 26 = .ok (.aload_n 0, 1) := by decide +kernel
theorem ddX4_init_27 : decode cX4_init 27 = .ok (.new 23, 3) := by decide +kernel
theorem ddX4_init_30 : decode cX4_init 30 = .ok (.dup, 1) := by decide +kernel
theorem ddX4_init_31 : decode cX4_init 31 = .ok (.invokespecial 25, 3) := by decide +kernel
theorem ddX4_init_34 : decode cX4_init 34 = .ok (.putfield 26, 3) := by decide +kernel
theorem ddX4_init_37 : decode cX4_init 37 = .ok (.aload_n 0, 1) := by decide +kernel
theorem ddX4_init_38 : decode cX4_init 38 = .ok (.new 30, 3) := by decide +kernel
theorem ddX4_init_41 : decode cX4_init 41 = .ok (.dup, 1) := by decide +kernel
theorem ddX4_init_42 : decode cX4_init 42 = .ok (.invokespecial 32, 3) := by decide +kernel
theorem ddX4_init_45 : decode cX4_init 45 = .ok (.putfield 33, 3) := by decide +kernel
theorem ddX4_init_48 : decode cX4_init 48 = .ok (.aload_n 0, 1) := by decide +kernel
theorem ddX4_init_49 : decode cX4_init 49 = .ok (.sipush 179, 3) := by decide +kernel
theorem ddX4_init_52 : decode cX4_init 52 = .ok (.newarray .int, 2) := by decide +kernel
theorem ddX4_init_54 : decode cX4_init 54 = .ok (.putfield 37, 3) := by decide +kernel
theorem ddX4_init_57 : decode cX4_init 57 = .ok (.aload_n 0, 1) := by decide +kernel
theorem ddX4_init_58 : decode cX4_init 58 = .ok (.bipush 28, 2) := by decide +kernel
theorem ddX4_init_60 : decode cX4_init 60 = .ok (.newarray .char, 2) := by decide +kernel
theorem ddX4_init_62 : decode cX4_init 62 = .ok (.putfield 41, 3) := by decide +kernel
theorem ddX4_init_65 : decode cX4_init 65 = .ok (.aload_n 0, 1) := by decide +kernel
theorem ddX4_init_66 : decode cX4_init 66 = .ok (.iconst (-1), 1) := by decide +kernel
theorem ddX4_init_67 : decode cX4_init 67 = .ok (.putfield 45, 3) := by decide +kernel
theorem ddX4_init_70 : decode cX4_init 70 = .ok (.aload_n 0, 1) := by decide +kernel
theorem ddX4_init_71 : decode cX4_init 71 = .ok (.iconst (-1), 1) := by decide +kernel
theorem ddX4_init_72 : decode cX4_init 72 = .ok (.putfield 49, 3) := by decide +kernel
theorem ddX4_init_75 : decode cX4_init 75 = .ok (.return_, 1) := by decide +kernel
theorem ddX4_addGate_0 : decode cX4_addGate 0 = .ok (.aload_n 0, 1) := by decide +kernel
theorem ddX4_addGate_1 : decode cX4_addGate 1 = .ok (.iload_n 1, 1) := by decide +kernel
theorem ddX4_addGate_2 : decode cX4_addGate 2 = .ok (.invokevirtual 52, 3) := by decide +kernel
theorem ddX4_addGate_5 : decode cX4_addGate 5 = .ok (.invokestatic 56, 3) := by decide +kernel
theorem ddX4_addGate_8 : decode cX4_addGate 8 = .ok (.aload_n 0, 1) := by decide +kernel
theorem ddX4_addGate_9 : decode cX4_addGate 9 = .ok (.getfield 19, 3) := by decide +kernel
theorem ddX4_addGate_12 : decode cX4_addGate 12 = .ok (.aload_n 0, 1) := by decide +kernel
theorem ddX4_addGate_13 : decode cX4_addGate 13 = .ok (.getfield 10, 3) := by decide +kernel
theorem ddX4_addGate_16 : decode cX4_addGate 16 = .ok (.invokevirtual 60, 3) := by decide +kernel
theorem ddX4_addGate_19 : decode cX4_addGate 19 = .ok (.aload_n 0, 1) := by decide +kernel
theorem ddX4_addGate_20 : decode cX4_addGate 20 = .ok (.getfield 10, 3) := by decide +kernel
theorem ddX4_addGate_23 : decode cX4_addGate 23 = .ok (.iload_n 1, 1) := by decide +kernel
theorem ddX4_addGate_24 : decode cX4_addGate 24 = .ok (.invokevirtual 64, 3) := by decide +kernel
theorem ddX4_addGate_27 : decode cX4_addGate 27 = .ok (.ireturn, 1) := by decide +kernel
theorem ddX4_addGuard_0 : decode cX4_addGuard 0 = .ok (.aload_n 0, 1) := by decide +kernel
theorem ddX4_addGuard_1 : decode cX4_addGuard 1 = .ok (.iload_n 1, 1) := by decide +kernel
theorem ddX4_addGuard_2 : decode cX4_addGuard 2 = .ok (.invokevirtual 67, 3) := by decide +kernel
theorem ddX4_addGuard_5 : decode cX4_addGuard 5 = .ok (.invokestatic 56, 3) := by decide +kernel
theorem ddX4_addGuard_8 : decode cX4_addGuard 8 = .ok (.aload_n 0, 1) := by decide +kernel
theorem ddX4_addGuard_9 : decode cX4_addGuard 9 = .ok (.getfield 19, 3) := by decide +kernel
theorem ddX4_addGuard_12 : decode cX4_addGuard 12 = .ok (.aload_n 0, 1) := by decide +kernel
theorem ddX4_addGuard_13 : decode cX4_addGuard 13 = .ok (.getfield 10, 3) := by decide +kernel
theorem ddX4_addGuard_16 : decode cX4_addGuard 16 = .ok (.invokevirtual 60, 3) := by decide +kernel
theorem ddX4_addGuard_19 : decode cX4_addGuard 19 = .ok (.aload_n 0, 1) := by decide +kernel
theorem ddX4_addGuard_20 : decode cX4_addGuard 20 = .ok (.getfield 10, 3) := by decide +kernel
theorem ddX4_addGuard_23 : decode cX4_addGuard 23 = .ok (.iload_n 1, 1) := by decide +kernel
theorem ddX4_addGuard_24 : decode cX4_addGuard 24 = .ok (.invokevirtual 70, 3) := by decide +kernel
theorem ddX4_addGuard_27 : decode cX4_addGuard 27 = .ok (.ireturn, 1) := by decide +kernel
theorem ddX4_gateCount_0 : decode cX4_gateCount 0 = .ok (.aload_n 0, 1) := by decide +kernel
theorem ddX4_gateCount_1 : decode cX4_gateCount 1 = .ok (.getfield 10, 3) := by decide +kernel
theorem ddX4_gateCount_4 : decode cX4_gateCount 4 = .ok (.invokevirtual 73, 3) := by decide +kernel
theorem ddX4_gateCount_7 : decode cX4_gateCount 7 = .ok (.ireturn, 1) := by decide +kernel
theorem ddX4_guardCount_0 : decode cX4_guardCount 0 = .ok (.aload_n 0, 1) := by decide +kernel
theorem ddX4_guardCount_1 : decode cX4_guardCount 1 = .ok (.getfield 10, 3) := by decide +kernel
theorem ddX4_guardCount_4 : decode cX4_guardCount 4 = .ok (.invokevirtual 77, 3) := by decide +kernel
theorem ddX4_guardCount_7 : decode cX4_guardCount 7 = .ok (.ireturn, 1) := by decide +kernel
theorem ddX4_neededRank_0 : decode cX4_neededRank 0 = .ok (.aload_n 0, 1) := by decide +kernel
theorem ddX4_neededRank_1 : decode cX4_neededRank 1 = .ok (.getfield 10, 3) := by decide +kernel
theorem ddX4_neededRank_4 : decode cX4_neededRank 4 = .ok (.iload_n 1, 1) := by decide +kernel
theorem ddX4_neededRank_5 : decode cX4_neededRank 5 = .ok (.invokevirtual 80, 3) := by decide +kernel
theorem ddX4_neededRank_8 : decode cX4_neededRank 8 = .ok (.ifCond .ne 13, 3) := by decide +kernel
theorem ddX4_neededRank_11 : decode cX4_neededRank 11 = .ok (.new 84, 3) := by decide +kernel
theorem ddX4_neededRank_14 : decode cX4_neededRank 14 = .ok (.dup, 1) := by decide +kernel
theorem ddX4_neededRank_15 : decode cX4_neededRank 15 = .ok (.ldc 86, 2) := by decide +kernel
theorem ddX4_neededRank_17 : decode cX4_neededRank 17 = .ok (.invokespecial 88, 3) := by decide +kernel
theorem ddX4_neededRank_20 : decode cX4_neededRank 20 = .ok (.athrow, 1) := by decide +kernel
theorem ddX4_neededRank_21 : decode cX4_neededRank 21 = .ok (.aload_n 0, 1) := by decide +kernel
theorem ddX4_neededRank_22 : decode cX4_neededRank 22 = .ok (.getfield 10, 3) := by decide +kernel
theorem ddX4_neededRank_25 : decode cX4_neededRank 25 = .ok (.iload_n 1, 1) := by decide +kernel
theorem ddX4_neededRank_26 : decode cX4_neededRank 26 = .ok (.invokevirtual 91, 3) := by decide +kernel
theorem ddX4_neededRank_29 : decode cX4_neededRank 29 = .ok (.ireturn, 1) := by decide +kernel
theorem ddX4_rank_0 : decode cX4_rank 0 = .ok (.aload_n 0, 1) := by decide +kernel
theorem ddX4_rank_1 : decode cX4_rank 1 = .ok (.iload_n 1, 1) := by decide +kernel
theorem ddX4_rank_2 : decode cX4_rank 2 = .ok (.invokevirtual 94, 3) := by decide +kernel
theorem ddX4_rank_5 : decode cX4_rank 5 = .ok (.aload_n 0, 1) := by decide +kernel
theorem ddX4_rank_6 : decode cX4_rank 6 = .ok (.getfield 10, 3) := by decide +kernel
theorem ddX4_rank_9 : decode cX4_rank 9 = .ok (.iload_n 1, 1) := by decide +kernel
theorem ddX4_rank_10 : decode cX4_rank 10 = .ok (.invokevirtual 97, 3) := by decide +kernel
theorem ddX4_rank_13 : decode cX4_rank 13 = .ok (.ireturn, 1) := by decide +kernel
theorem ddX4_faints_0 : decode cX4_faints 0 = .ok (.aload_n 0, 1) := by decide +kernel
theorem ddX4_faints_1 : decode cX4_faints 1 = .ok (.iload_n 1, 1) := by decide +kernel
theorem ddX4_faints_2 : decode cX4_faints 2 = .ok (.invokevirtual 94, 3) := by decide +kernel
theorem ddX4_faints_5 : decode cX4_faints 5 = .ok (.aload_n 0, 1) := by decide +kernel
theorem ddX4_faints_6 : decode cX4_faints 6 = .ok (.getfield 10, 3) := by decide +kernel
theorem ddX4_faints_9 : decode cX4_faints 9 = .ok (.iload_n 1, 1) := by decide +kernel
theorem ddX4_faints_10 : decode cX4_faints 10 = .ok (.invokevirtual 100, 3) := by decide +kernel
theorem ddX4_faints_13 : decode cX4_faints 13 = .ok (.ireturn, 1) := by decide +kernel
theorem ddX4_assign_0 : decode cX4_assign 0 = .ok (.aload_n 0, 1) := by decide +kernel
theorem ddX4_assign_1 : decode cX4_assign 1 = .ok (.iload_n 1, 1) := by decide +kernel
theorem ddX4_assign_2 : decode cX4_assign 2 = .ok (.iload_n 2, 1) := by decide +kernel
theorem ddX4_assign_3 : decode cX4_assign 3 = .ok (.iload_n 3, 1) := by decide +kernel
theorem ddX4_assign_4 : decode cX4_assign 4 = .ok (.invokevirtual 103, 3) := by decide +kernel
theorem ddX4_assign_7 : decode cX4_assign 7 = .ok (.invokestatic 56, 3) := by decide +kernel
theorem ddX4_assign_10 : decode cX4_assign 10 = .ok (.aload_n 0, 1) := by decide +kernel
theorem ddX4_assign_11 : decode cX4_assign 11 = .ok (.getfield 19, 3) := by decide +kernel
theorem ddX4_assign_14 : decode cX4_assign 14 = .ok (.aload_n 0, 1) := by decide +kernel
theorem ddX4_assign_15 : decode cX4_assign 15 = .ok (.getfield 10, 3) := by decide +kernel
theorem ddX4_assign_18 : decode cX4_assign 18 = .ok (.invokevirtual 60, 3) := by decide +kernel
theorem ddX4_assign_21 : decode cX4_assign 21 = .ok (.aload_n 0, 1) := by decide +kernel
theorem ddX4_assign_22 : decode cX4_assign 22 = .ok (.getfield 10, 3) := by decide +kernel
theorem ddX4_assign_25 : decode cX4_assign 25 = .ok (.iload_n 1, 1) := by decide +kernel
theorem ddX4_assign_26 : decode cX4_assign 26 = .ok (.iload_n 2, 1) := by decide +kernel
theorem ddX4_assign_27 : decode cX4_assign 27 = .ok (.iload_n 3, 1) := by decide +kernel
theorem ddX4_assign_28 : decode cX4_assign 28 = .ok (.invokevirtual 107, 3) := by decide +kernel
theorem ddX4_assign_31 : decode cX4_assign 31 = .ok (.aload_n 0, 1) := by decide +kernel
theorem ddX4_assign_32 : decode cX4_assign 32 = .ok (.getfield 10, 3) := by decide +kernel
theorem ddX4_assign_35 : decode cX4_assign 35 = .ok (.iload_n 3, 1) := by decide +kernel
theorem ddX4_assign_36 : decode cX4_assign 36 = .ok (.invokevirtual 111, 3) := by decide +kernel
theorem ddX4_assign_39 : decode cX4_assign 39 = .ok (.ireturn, 1) := by decide +kernel
theorem ddX4_canAssign_0 : decode cX4_canAssign 0 = .ok (.aload_n 0, 1) := by decide +kernel
theorem ddX4_canAssign_1 : decode cX4_canAssign 1 = .ok (.getfield 10, 3) := by decide +kernel
theorem ddX4_canAssign_4 : decode cX4_canAssign 4 = .ok (.iload_n 1, 1) := by decide +kernel
theorem ddX4_canAssign_5 : decode cX4_canAssign 5 = .ok (.invokevirtual 80, 3) := by decide +kernel
theorem ddX4_canAssign_8 : decode cX4_canAssign 8 = .ok (.ifCond .eq 25, 3) := by decide +kernel
theorem ddX4_canAssign_11 : decode cX4_canAssign 11 = .ok (.aload_n 0, 1) := by decide +kernel
theorem ddX4_canAssign_12 : decode cX4_canAssign 12 = .ok (.getfield 10, 3) := by decide +kernel
theorem ddX4_canAssign_15 : decode cX4_canAssign 15 = .ok (.iload_n 2, 1) := by decide +kernel
theorem ddX4_canAssign_16 : decode cX4_canAssign 16 = .ok (.invokevirtual 114, 3) := by decide +kernel
theorem ddX4_canAssign_19 : decode cX4_canAssign 19 = .ok (.ifCond .eq 14, 3) := by decide +kernel
theorem ddX4_canAssign_22 : decode cX4_canAssign 22 = .ok (.aload_n 0, 1) := by decide +kernel
theorem ddX4_canAssign_23 : decode cX4_canAssign 23 = .ok (.getfield 10, 3) := by decide +kernel
theorem ddX4_canAssign_26 : decode cX4_canAssign 26 = .ok (.iload_n 3, 1) := by decide +kernel
theorem ddX4_canAssign_27 : decode cX4_canAssign 27 = .ok (.invokevirtual 117, 3) := by decide +kernel
theorem ddX4_canAssign_30 : decode cX4_canAssign 30 = .ok (.ifCond .ne 13, 3) := by decide +kernel
theorem ddX4_canAssign_33 : decode cX4_canAssign 33 = .ok (.new 84, 3) := by decide +kernel
theorem ddX4_canAssign_36 : decode cX4_canAssign 36 = .ok (.dup, 1) := by decide +kernel
theorem ddX4_canAssign_37 : decode cX4_canAssign 37 = .ok (.ldc 120, 2) := by decide +kernel
theorem ddX4_canAssign_39 : decode cX4_canAssign 39 = .ok (.invokespecial 88, 3) := by decide +kernel
theorem ddX4_canAssign_42 : decode cX4_canAssign 42 = .ok (.athrow, 1) := by decide +kernel
theorem ddX4_canAssign_43 : decode cX4_canAssign 43 = .ok (.aload_n 0, 1) := by decide +kernel
theorem ddX4_canAssign_44 : decode cX4_canAssign 44 = .ok (.getfield 10, 3) := by decide +kernel
theorem ddX4_canAssign_47 : decode cX4_canAssign 47 = .ok (.iload_n 2, 1) := by decide +kernel
theorem ddX4_canAssign_48 : decode cX4_canAssign 48 = .ok (.invokevirtual 122, 3) := by decide +kernel
theorem ddX4_canAssign_51 : decode cX4_canAssign 51 = .ok (.ifCond .ne 20, 3) := by decide +kernel
theorem ddX4_canAssign_54 : decode cX4_canAssign 54 = .ok (.aload_n 0, 1) := by decide +kernel
theorem ddX4_canAssign_55 : decode cX4_canAssign 55 = .ok (.getfield 10, 3) := by decide +kernel
theorem ddX4_canAssign_58 : decode cX4_canAssign 58 = .ok (.iload_n 1, 1) := by decide +kernel
theorem ddX4_canAssign_59 : decode cX4_canAssign 59 = .ok (.iload_n 2, 1) := by decide +kernel
theorem ddX4_canAssign_60 : decode cX4_canAssign 60 = .ok (.iload_n 3, 1) := by decide +kernel
theorem ddX4_canAssign_61 : decode cX4_canAssign 61 = .ok (.invokevirtual 125, 3) := by decide +kernel
theorem ddX4_canAssign_64 : decode cX4_canAssign 64 = .ok (.ifCond .ne 7, 3) := by decide +kernel
theorem ddX4_canAssign_67 : decode cX4_canAssign 67 = .ok (.iconst 1, 1) := by decide +kernel
theorem ddX4_canAssign_68 : decode cX4_canAssign 68 = .ok (.goto 4, 3) := by decide +kernel
theorem ddX4_canAssign_71 : decode cX4_canAssign 71 = .ok (.iconst 0, 1) := by decide +kernel
theorem ddX4_canAssign_72 : decode cX4_canAssign 72 = .ok (.ireturn, 1) := by decide +kernel
theorem ddX4_remove_0 : decode cX4_remove 0 = .ok (.aload_n 0, 1) := by decide +kernel
theorem ddX4_remove_1 : decode cX4_remove 1 = .ok (.iload_n 1, 1) := by decide +kernel
theorem ddX4_remove_2 : decode cX4_remove 2 = .ok (.iload_n 2, 1) := by decide +kernel
theorem ddX4_remove_3 : decode cX4_remove 3 = .ok (.invokevirtual 128, 3) := by decide +kernel
theorem ddX4_remove_6 : decode cX4_remove 6 = .ok (.invokestatic 56, 3) := by decide +kernel
theorem ddX4_remove_9 : decode cX4_remove 9 = .ok (.aload_n 0, 1) := by decide +kernel
theorem ddX4_remove_10 : decode cX4_remove 10 = .ok (.getfield 19, 3) := by decide +kernel
theorem ddX4_remove_13 : decode cX4_remove 13 = .ok (.aload_n 0, 1) := by decide +kernel
theorem ddX4_remove_14 : decode cX4_remove 14 = .ok (.getfield 10, 3) := by decide +kernel
theorem ddX4_remove_17 : decode cX4_remove 17 = .ok (.invokevirtual 60, 3) := by decide +kernel
theorem ddX4_remove_20 : decode cX4_remove 20 = .ok (.aload_n 0, 1) := by decide +kernel
theorem ddX4_remove_21 : decode cX4_remove 21 = .ok (.getfield 10, 3) := by decide +kernel
theorem ddX4_remove_24 : decode cX4_remove 24 = .ok (.iload_n 1, 1) := by decide +kernel
theorem ddX4_remove_25 : decode cX4_remove 25 = .ok (.iload_n 2, 1) := by decide +kernel
theorem ddX4_remove_26 : decode cX4_remove 26 = .ok (.invokevirtual 132, 3) := by decide +kernel
theorem ddX4_remove_29 : decode cX4_remove 29 = .ok (.istore_n 3, 1) := by decide +kernel
theorem ddX4_remove_30 : decode cX4_remove 30 = .ok (.aload_n 0, 1) := by decide +kernel
theorem ddX4_remove_31 : decode cX4_remove 31 = .ok (.getfield 10, 3) := by decide +kernel
theorem ddX4_remove_34 : decode cX4_remove 34 = .ok (.iload_n 1, 1) := by decide +kernel
theorem ddX4_remove_35 : decode cX4_remove 35 = .ok (.iload_n 2, 1) := by decide +kernel
theorem ddX4_remove_36 : decode cX4_remove 36 = .ok (.iconst (-1), 1) := by decide +kernel
theorem ddX4_remove_37 : decode cX4_remove 37 = .ok (.invokevirtual 107, 3) := by decide +kernel
theorem ddX4_remove_40 : decode cX4_remove 40 = .ok (.iload_n 3, 1) := by decide +kernel
theorem ddX4_remove_41 : decode cX4_remove 41 = .ok (.ireturn, 1) := by decide +kernel
theorem ddX4_exchange_0 : decode cX4_exchange 0 = .ok (.aload_n 0, 1) := by decide +kernel
theorem ddX4_exchange_1 : decode cX4_exchange 1 = .ok (.iload_n 1, 1) := by decide +kernel
theorem ddX4_exchange_2 : decode cX4_exchange 2 = .ok (.iload_n 2, 1) := by decide +kernel
theorem ddX4_exchange_3 : decode cX4_exchange 3 = .ok (.iload_n 3, 1) := by decide +kernel
theorem ddX4_exchange_4 : decode cX4_exchange 4 = .ok (.iload 4, 2) := by decide +kernel
theorem ddX4_exchange_6 : decode cX4_exchange 6 = .ok (.invokevirtual 135, 3) := by decide +kernel
theorem ddX4_exchange_9 : decode cX4_exchange 9 = .ok (.invokestatic 56, 3) := by decide +kernel
theorem ddX4_exchange_12 : decode cX4_exchange 12 = .ok (.aload_n 0, 1) := by decide +kernel
theorem ddX4_exchange_13 : decode cX4_exchange 13 = .ok (.getfield 19, 3) := by decide +kernel
theorem ddX4_exchange_16 : decode cX4_exchange 16 = .ok (.aload_n 0, 1) := by decide +kernel
theorem ddX4_exchange_17 : decode cX4_exchange 17 = .ok (.getfield 10, 3) := by decide +kernel
theorem ddX4_exchange_20 : decode cX4_exchange 20 = .ok (.invokevirtual 60, 3) := by decide +kernel
theorem ddX4_exchange_23 : decode cX4_exchange 23 = .ok (.aload_n 0, 1) := by decide +kernel
theorem ddX4_exchange_24 : decode cX4_exchange 24 = .ok (.getfield 10, 3) := by decide +kernel
theorem ddX4_exchange_27 : decode cX4_exchange 27 = .ok (.iload_n 1, 1) := by decide +kernel
theorem ddX4_exchange_28 : decode cX4_exchange 28 = .ok (.iload_n 2, 1) := by decide +kernel
theorem ddX4_exchange_29 : decode cX4_exchange 29 = .ok (.invokevirtual 132, 3) := by decide +kernel
theorem ddX4_exchange_32 : decode cX4_exchange 32 = .ok (.istore 5, 2) := by decide +kernel
theorem ddX4_exchange_34 : decode cX4_exchange 34 = .ok (.aload_n 0, 1) := by decide +kernel
theorem ddX4_exchange_35 : decode cX4_exchange 35 = .ok (.getfield 10, 3) := by decide +kernel
theorem ddX4_exchange_38 : decode cX4_exchange 38 = .ok (.iload_n 3, 1) := by decide +kernel
theorem ddX4_exchange_39 : decode cX4_exchange 39 = .ok (.iload 4, 2) := by decide +kernel
theorem ddX4_exchange_41 : decode cX4_exchange 41 = .ok (.invokevirtual 132, 3) := by decide +kernel
theorem ddX4_exchange_44 : decode cX4_exchange 44 = .ok (.istore 6, 2) := by decide +kernel
theorem ddX4_exchange_46 : decode cX4_exchange 46 = .ok (.aload_n 0, 1) := by decide +kernel
theorem ddX4_exchange_47 : decode cX4_exchange 47 = .ok (.getfield 10, 3) := by decide +kernel
theorem ddX4_exchange_50 : decode cX4_exchange 50 = .ok (.iload_n 1, 1) := by decide +kernel
theorem ddX4_exchange_51 : decode cX4_exchange 51 = .ok (.iload_n 2, 1) := by decide +kernel
theorem ddX4_exchange_52 : decode cX4_exchange 52 = .ok (.iload 6, 2) := by decide +kernel
theorem ddX4_exchange_54 : decode cX4_exchange 54 = .ok (.invokevirtual 107, 3) := by decide +kernel
theorem ddX4_exchange_57 : decode cX4_exchange 57 = .ok (.aload_n 0, 1) := by decide +kernel
theorem ddX4_exchange_58 : decode cX4_exchange 58 = .ok (.getfield 10, 3) := by decide +kernel
theorem ddX4_exchange_61 : decode cX4_exchange 61 = .ok (.iload_n 3, 1) := by decide +kernel
theorem ddX4_exchange_62 : decode cX4_exchange 62 = .ok (.iload 4, 2) := by decide +kernel
theorem ddX4_exchange_64 : decode cX4_exchange 64 = .ok (.iload 5, 2) := by decide +kernel
theorem ddX4_exchange_66 : decode cX4_exchange 66 = .ok (.invokevirtual 107, 3) := by decide +kernel
theorem ddX4_exchange_69 : decode cX4_exchange 69 = .ok (.iload 6, 2) := by decide +kernel
theorem ddX4_exchange_71 : decode cX4_exchange 71 = .ok (.ireturn, 1) := by decide +kernel
theorem ddX4_fillSlot_0 : decode cX4_fillSlot 0 = .ok (.aload_n 0, 1) := by decide +kernel
theorem ddX4_fillSlot_1 : decode cX4_fillSlot 1 = .ok (.iload_n 1, 1) := by decide +kernel
theorem ddX4_fillSlot_2 : decode cX4_fillSlot 2 = .ok (.invokevirtual 139, 3) := by decide +kernel
theorem ddX4_fillSlot_5 : decode cX4_fillSlot 5 = .ok (.invokestatic 56, 3) := by decide +kernel
theorem ddX4_fillSlot_8 : decode cX4_fillSlot 8 = .ok (.aload_n 0, 1) := by decide +kernel
theorem ddX4_fillSlot_9 : decode cX4_fillSlot 9 = .ok (.getfield 19, 3) := by decide +kernel
theorem ddX4_fillSlot_12 : decode cX4_fillSlot 12 = .ok (.aload_n 0, 1) := by decide +kernel
theorem ddX4_fillSlot_13 : decode cX4_fillSlot 13 = .ok (.getfield 10, 3) := by decide +kernel
theorem ddX4_fillSlot_16 : decode cX4_fillSlot 16 = .ok (.invokevirtual 60, 3) := by decide +kernel
theorem ddX4_fillSlot_19 : decode cX4_fillSlot 19 = .ok (.aload_n 0, 1) := by decide +kernel
theorem ddX4_fillSlot_20 : decode cX4_fillSlot 20 = .ok (.getfield 10, 3) := by decide +kernel
theorem ddX4_fillSlot_23 : decode cX4_fillSlot 23 = .ok (.iload_n 1, 1) := by decide +kernel
theorem ddX4_fillSlot_24 : decode cX4_fillSlot 24 = .ok (.invokevirtual 142, 3) := by decide +kernel
theorem ddX4_fillSlot_27 : decode cX4_fillSlot 27 = .ok (.ireturn, 1) := by decide +kernel
theorem ddX4_guardAt_0 : decode cX4_guardAt 0 = .ok (.aload_n 0, 1) := by decide +kernel
theorem ddX4_guardAt_1 : decode cX4_guardAt 1 = .ok (.getfield 10, 3) := by decide +kernel
theorem ddX4_guardAt_4 : decode cX4_guardAt 4 = .ok (.iload_n 1, 1) := by decide +kernel
theorem ddX4_guardAt_5 : decode cX4_guardAt 5 = .ok (.invokevirtual 80, 3) := by decide +kernel
theorem ddX4_guardAt_8 : decode cX4_guardAt 8 = .ok (.ifCond .eq 14, 3) := by decide +kernel
theorem ddX4_guardAt_11 : decode cX4_guardAt 11 = .ok (.aload_n 0, 1) := by decide +kernel
theorem ddX4_guardAt_12 : decode cX4_guardAt 12 = .ok (.getfield 10, 3) := by decide +kernel
theorem ddX4_guardAt_15 : decode cX4_guardAt 15 = .ok (.iload_n 2, 1) := by decide +kernel
theorem ddX4_guardAt_16 : decode cX4_guardAt 16 = .ok (.invokevirtual 114, 3) := by decide +kernel
theorem ddX4_guardAt_19 : decode cX4_guardAt 19 = .ok (.ifCond .ne 13, 3) := by decide +kernel
theorem ddX4_guardAt_22 : decode cX4_guardAt 22 = .ok (.new 84, 3) := by decide +kernel
theorem ddX4_guardAt_25 : decode cX4_guardAt 25 = .ok (.dup, 1) := by decide +kernel
theorem ddX4_guardAt_26 : decode cX4_guardAt 26 = .ok (.ldc 145, 2) := by decide +kernel
theorem ddX4_guardAt_28 : decode cX4_guardAt 28 = .ok (.invokespecial 88, 3) := by decide +kernel
theorem ddX4_guardAt_31 : decode cX4_guardAt 31 = .ok (.athrow, 1) := by decide +kernel
theorem ddX4_guardAt_32 : decode cX4_guardAt 32 = .ok (.aload_n 0, 1) := by decide +kernel
theorem ddX4_guardAt_33 : decode cX4_guardAt 33 = .ok (.getfield 10, 3) := by decide +kernel
theorem ddX4_guardAt_36 : decode cX4_guardAt 36 = .ok (.iload_n 1, 1) := by decide +kernel
theorem ddX4_guardAt_37 : decode cX4_guardAt 37 = .ok (.iload_n 2, 1) := by decide +kernel
theorem ddX4_guardAt_38 : decode cX4_guardAt 38 = .ok (.invokevirtual 132, 3) := by decide +kernel
theorem ddX4_guardAt_41 : decode cX4_guardAt 41 = .ok (.istore_n 3, 1) := by decide +kernel
theorem ddX4_guardAt_42 : decode cX4_guardAt 42 = .ok (.iload_n 3, 1) := by decide +kernel
theorem ddX4_guardAt_43 : decode cX4_guardAt 43 = .ok (.iconst (-1), 1) := by decide +kernel
theorem ddX4_guardAt_44 : decode cX4_guardAt 44 = .ok (.if_icmp .ne 13, 3) := by decide +kernel
theorem ddX4_guardAt_47 : decode cX4_guardAt 47 = .ok (.new 147, 3) := by decide +kernel
theorem ddX4_guardAt_50 : decode cX4_guardAt 50 = .ok (.dup, 1) := by decide +kernel
theorem ddX4_guardAt_51 : decode cX4_guardAt 51 = .ok (.ldc 149, 2) := by decide +kernel
theorem ddX4_guardAt_53 : decode cX4_guardAt 53 = .ok (.invokespecial 151, 3) := by decide +kernel
theorem ddX4_guardAt_56 : decode cX4_guardAt 56 = .ok (.athrow, 1) := by decide +kernel
theorem ddX4_guardAt_57 : decode cX4_guardAt 57 = .ok (.iload_n 3, 1) := by decide +kernel
theorem ddX4_guardAt_58 : decode cX4_guardAt 58 = .ok (.ireturn, 1) := by decide +kernel
theorem ddX4_gateOf_0 : decode cX4_gateOf 0 = .ok (.aload_n 0, 1) := by decide +kernel
theorem ddX4_gateOf_1 : decode cX4_gateOf 1 = .ok (.iload_n 1, 1) := by decide +kernel
theorem ddX4_gateOf_2 : decode cX4_gateOf 2 = .ok (.iload_n 2, 1) := by decide +kernel
theorem ddX4_gateOf_3 : decode cX4_gateOf 3 = .ok (.invokevirtual 152, 3) := by decide +kernel
theorem ddX4_gateOf_6 : decode cX4_gateOf 6 = .ok (.aload_n 0, 1) := by decide +kernel
theorem ddX4_gateOf_7 : decode cX4_gateOf 7 = .ok (.getfield 10, 3) := by decide +kernel
theorem ddX4_gateOf_10 : decode cX4_gateOf 10 = .ok (.iload_n 1, 1) := by decide +kernel
theorem ddX4_gateOf_11 : decode cX4_gateOf 11 = .ok (.iload_n 2, 1) := by decide +kernel
theorem ddX4_gateOf_12 : decode cX4_gateOf 12 = .ok (.invokevirtual 156, 3) := by decide +kernel
theorem ddX4_gateOf_15 : decode cX4_gateOf 15 = .ok (.istore_n 3, 1) := by decide +kernel
theorem ddX4_gateOf_16 : decode cX4_gateOf 16 = .ok (.iload_n 3, 1) := by decide +kernel
theorem ddX4_gateOf_17 : decode cX4_gateOf 17 = .ok (.iconst (-1), 1) := by decide +kernel
theorem ddX4_gateOf_18 : decode cX4_gateOf 18 = .ok (.if_icmp .ne 13, 3) := by decide +kernel
theorem ddX4_gateOf_21 : decode cX4_gateOf 21 = .ok (.new 147, 3) := by decide +kernel
theorem ddX4_gateOf_24 : decode cX4_gateOf 24 = .ok (.dup, 1) := by decide +kernel
theorem ddX4_gateOf_25 : decode cX4_gateOf 25 = .ok (.ldc 159, 2) := by decide +kernel
theorem ddX4_gateOf_27 : decode cX4_gateOf 27 = .ok (.invokespecial 151, 3) := by decide +kernel
theorem ddX4_gateOf_30 : decode cX4_gateOf 30 = .ok (.athrow, 1) := by decide +kernel
theorem ddX4_gateOf_31 : decode cX4_gateOf 31 = .ok (.iload_n 3, 1) := by decide +kernel
theorem ddX4_gateOf_32 : decode cX4_gateOf 32 = .ok (.ireturn, 1) := by decide +kernel
theorem ddX4_dutiesOf_0 : decode cX4_dutiesOf 0 = .ok (.aload_n 0, 1) := by decide +kernel
theorem ddX4_dutiesOf_1 : decode cX4_dutiesOf 1 = .ok (.iload_n 1, 1) := by decide +kernel
theorem ddX4_dutiesOf_2 : decode cX4_dutiesOf 2 = .ok (.invokevirtual 94, 3) := by decide +kernel
theorem ddX4_dutiesOf_5 : decode cX4_dutiesOf 5 = .ok (.aload_n 0, 1) := by decide +kernel
theorem ddX4_dutiesOf_6 : decode cX4_dutiesOf 6 = .ok (.getfield 10, 3) := by decide +kernel
theorem ddX4_dutiesOf_9 : decode cX4_dutiesOf 9 = .ok (.iload_n 1, 1) := by decide +kernel
theorem ddX4_dutiesOf_10 : decode cX4_dutiesOf 10 = .ok (.invokevirtual 111, 3) := by decide +kernel
theorem ddX4_dutiesOf_13 : decode cX4_dutiesOf 13 = .ok (.ireturn, 1) := by decide +kernel
theorem ddX4_dutyCount_0 : decode cX4_dutyCount 0 = .ok (.aload_n 0, 1) := by decide +kernel
theorem ddX4_dutyCount_1 : decode cX4_dutyCount 1 = .ok (.getfield 10, 3) := by decide +kernel
theorem ddX4_dutyCount_4 : decode cX4_dutyCount 4 = .ok (.iconst 0, 1) := by decide +kernel
theorem ddX4_dutyCount_5 : decode cX4_dutyCount 5 = .ok (.invokevirtual 161, 3) := by decide +kernel
theorem ddX4_dutyCount_8 : decode cX4_dutyCount 8 = .ok (.ireturn, 1) := by decide +kernel
theorem ddX4_openGates_0 : decode cX4_openGates 0 = .ok (.aload_n 0, 1) := by decide +kernel
theorem ddX4_openGates_1 : decode cX4_openGates 1 = .ok (.iload_n 1, 1) := by decide +kernel
theorem ddX4_openGates_2 : decode cX4_openGates 2 = .ok (.invokevirtual 164, 3) := by decide +kernel
theorem ddX4_openGates_5 : decode cX4_openGates 5 = .ok (.aload_n 0, 1) := by decide +kernel
theorem ddX4_openGates_6 : decode cX4_openGates 6 = .ok (.getfield 10, 3) := by decide +kernel
theorem ddX4_openGates_9 : decode cX4_openGates 9 = .ok (.iload_n 1, 1) := by decide +kernel
theorem ddX4_openGates_10 : decode cX4_openGates 10 = .ok (.invokevirtual 167, 3) := by decide +kernel
theorem ddX4_openGates_13 : decode cX4_openGates 13 = .ok (.ireturn, 1) := by decide +kernel
theorem ddX4_openPlaces_0 : decode cX4_openPlaces 0 = .ok (.iconst 0, 1) := by decide +kernel
theorem ddX4_openPlaces_1 : decode cX4_openPlaces 1 = .ok (.istore_n 1, 1) := by decide +kernel
theorem ddX4_openPlaces_2 : decode cX4_openPlaces 2 = .ok (.iconst 0, 1) := by decide +kernel
theorem ddX4_openPlaces_3 : decode cX4_openPlaces 3 = .ok (.istore_n 2, 1) := by decide +kernel
theorem ddX4_openPlaces_4 : decode cX4_openPlaces 4 = .ok (.iload_n 2, 1) := by decide +kernel
theorem ddX4_openPlaces_5 : decode cX4_openPlaces 5 = .ok (.aload_n 0, 1) := by decide +kernel
theorem ddX4_openPlaces_6 : decode cX4_openPlaces 6 = .ok (.getfield 10, 3) := by decide +kernel
theorem ddX4_openPlaces_9 : decode cX4_openPlaces 9 = .ok (.invokevirtual 73, 3) := by decide +kernel
theorem ddX4_openPlaces_12 : decode cX4_openPlaces 12 = .ok (.if_icmp .ge 20, 3) := by decide +kernel
theorem ddX4_openPlaces_15 : decode cX4_openPlaces 15 = .ok (.iload_n 1, 1) := by decide +kernel
theorem ddX4_openPlaces_16 : decode cX4_openPlaces 16 = .ok (.aload_n 0, 1) := by decide +kernel
theorem ddX4_openPlaces_17 : decode cX4_openPlaces 17 = .ok (.getfield 10, 3) := by decide +kernel
theorem ddX4_openPlaces_20 : decode cX4_openPlaces 20 = .ok (.iload_n 2, 1) := by decide +kernel
theorem ddX4_openPlaces_21 : decode cX4_openPlaces 21 = .ok (.invokevirtual 170, 3) := by decide +kernel
theorem ddX4_openPlaces_24 : decode cX4_openPlaces 24 = .ok (.iadd, 1) := by decide +kernel
theorem ddX4_openPlaces_25 : decode cX4_openPlaces 25 = .ok (.istore_n 1, 1) := by decide +kernel
theorem ddX4_openPlaces_26 : decode cX4_openPlaces 26 = .ok (.iinc 2 1, 3) := by decide +kernel
theorem ddX4_openPlaces_29 : decode cX4_openPlaces 29 = .ok (.goto (-25), 3) := by decide +kernel
theorem ddX4_openPlaces_32 : decode cX4_openPlaces 32 = .ok (.iload_n 1, 1) := by decide +kernel
theorem ddX4_openPlaces_33 : decode cX4_openPlaces 33 = .ok (.ireturn, 1) := by decide +kernel
theorem ddX4_openPlacesBySlots_0 : decode cX4_openPlacesBySlots 0 = .ok (.iconst 0, 1) := by decide +kernel
theorem ddX4_openPlacesBySlots_1 : decode cX4_openPlacesBySlots 1 = .ok (.istore_n 1, 1) := by decide +kernel
theorem ddX4_openPlacesBySlots_2 : decode cX4_openPlacesBySlots 2 = .ok (.aload_n 0, 1) := by decide +kernel
theorem ddX4_openPlacesBySlots_3 : decode cX4_openPlacesBySlots 3 = .ok (.getfield 10, 3) := by decide +kernel
theorem ddX4_openPlacesBySlots_6 : decode cX4_openPlacesBySlots 6 = .ok (.invokevirtual 173, 3) := by decide +kernel
theorem ddX4_openPlacesBySlots_9 : decode cX4_openPlacesBySlots 9 = .ok (.istore_n 2, 1) := by decide +kernel
theorem ddX4_openPlacesBySlots_10 : decode cX4_openPlacesBySlots 10 = .ok (.iload_n 2, 1) := by decide +kernel
theorem ddX4_openPlacesBySlots_11 : decode cX4_openPlacesBySlots 11 = .ok (.bipush 28, 2) := by decide +kernel
theorem ddX4_openPlacesBySlots_13 : decode cX4_openPlacesBySlots 13 = .ok (.if_icmp .ge 20, 3) := by decide +kernel
theorem ddX4_openPlacesBySlots_16 : decode cX4_openPlacesBySlots 16 = .ok (.iload_n 1, 1) := by decide +kernel
theorem ddX4_openPlacesBySlots_17 : decode cX4_openPlacesBySlots 17 = .ok (.aload_n 0, 1) := by decide +kernel
theorem ddX4_openPlacesBySlots_18 : decode cX4_openPlacesBySlots 18 = .ok (.getfield 10, 3) := by decide +kernel
theorem ddX4_openPlacesBySlots_21 : decode cX4_openPlacesBySlots 21 = .ok (.iload_n 2, 1) := by decide +kernel
theorem ddX4_openPlacesBySlots_22 : decode cX4_openPlacesBySlots 22 = .ok (.invokevirtual 167, 3) := by decide +kernel
theorem ddX4_openPlacesBySlots_25 : decode cX4_openPlacesBySlots 25 = .ok (.iadd, 1) := by decide +kernel
theorem ddX4_openPlacesBySlots_26 : decode cX4_openPlacesBySlots 26 = .ok (.istore_n 1, 1) := by decide +kernel
theorem ddX4_openPlacesBySlots_27 : decode cX4_openPlacesBySlots 27 = .ok (.iinc 2 1, 3) := by decide +kernel
theorem ddX4_openPlacesBySlots_30 : decode cX4_openPlacesBySlots 30 = .ok (.goto (-20), 3) := by decide +kernel
theorem ddX4_openPlacesBySlots_33 : decode cX4_openPlacesBySlots 33 = .ok (.iload_n 1, 1) := by decide +kernel
theorem ddX4_openPlacesBySlots_34 : decode cX4_openPlacesBySlots 34 = .ok (.ireturn, 1) := by decide +kernel
theorem ddX4_mostDuties_0 : decode cX4_mostDuties 0 = .ok (.aload_n 0, 1) := by decide +kernel
theorem ddX4_mostDuties_1 : decode cX4_mostDuties 1 = .ok (.iload_n 1, 1) := by decide +kernel
theorem ddX4_mostDuties_2 : decode cX4_mostDuties 2 = .ok (.invokevirtual 164, 3) := by decide +kernel
theorem ddX4_mostDuties_5 : decode cX4_mostDuties 5 = .ok (.aload_n 0, 1) := by decide +kernel
theorem ddX4_mostDuties_6 : decode cX4_mostDuties 6 = .ok (.getfield 26, 3) := by decide +kernel
theorem ddX4_mostDuties_9 : decode cX4_mostDuties 9 = .ok (.aload_n 0, 1) := by decide +kernel
theorem ddX4_mostDuties_10 : decode cX4_mostDuties 10 = .ok (.getfield 10, 3) := by decide +kernel
theorem ddX4_mostDuties_13 : decode cX4_mostDuties 13 = .ok (.iload_n 1, 1) := by decide +kernel
theorem ddX4_mostDuties_14 : decode cX4_mostDuties 14 = .ok (.invokevirtual 176, 3) := by decide +kernel
theorem ddX4_mostDuties_17 : decode cX4_mostDuties 17 = .ok (.aload_n 0, 1) := by decide +kernel
theorem ddX4_mostDuties_18 : decode cX4_mostDuties 18 = .ok (.getfield 26, 3) := by decide +kernel
theorem ddX4_mostDuties_21 : decode cX4_mostDuties 21 = .ok (.invokevirtual 180, 3) := by decide +kernel
theorem ddX4_mostDuties_24 : decode cX4_mostDuties 24 = .ok (.ireturn, 1) := by decide +kernel
theorem ddX4_mostDutiesBySets_0 : decode cX4_mostDutiesBySets 0 = .ok (.aload_n 0, 1) := by decide +kernel
theorem ddX4_mostDutiesBySets_1 : decode cX4_mostDutiesBySets 1 = .ok (.iload_n 1, 1) := by decide +kernel
theorem ddX4_mostDutiesBySets_2 : decode cX4_mostDutiesBySets 2 = .ok (.invokevirtual 164, 3) := by decide +kernel
theorem ddX4_mostDutiesBySets_5 : decode cX4_mostDutiesBySets 5 = .ok (.aload_n 0, 1) := by decide +kernel
theorem ddX4_mostDutiesBySets_6 : decode cX4_mostDutiesBySets 6 = .ok (.getfield 26, 3) := by decide +kernel
theorem ddX4_mostDutiesBySets_9 : decode cX4_mostDutiesBySets 9 = .ok (.aload_n 0, 1) := by decide +kernel
theorem ddX4_mostDutiesBySets_10 : decode cX4_mostDutiesBySets 10 = .ok (.getfield 10, 3) := by decide +kernel
theorem ddX4_mostDutiesBySets_13 : decode cX4_mostDutiesBySets 13 = .ok (.iload_n 1, 1) := by decide +kernel
theorem ddX4_mostDutiesBySets_14 : decode cX4_mostDutiesBySets 14 = .ok (.invokevirtual 176, 3) := by decide +kernel
theorem ddX4_mostDutiesBySets_17 : decode cX4_mostDutiesBySets 17 = .ok (.aload_n 0, 1) := by decide +kernel
theorem ddX4_mostDutiesBySets_18 : decode cX4_mostDutiesBySets 18 = .ok (.getfield 26, 3) := by decide +kernel
theorem ddX4_mostDutiesBySets_21 : decode cX4_mostDutiesBySets 21 = .ok (.invokevirtual 183, 3) := by decide +kernel
theorem ddX4_mostDutiesBySets_24 : decode cX4_mostDutiesBySets 24 = .ok (.ireturn, 1) := by decide +kernel
theorem ddX4_nextDuty_0 : decode cX4_nextDuty 0 = .ok (.aload_n 0, 1) := by decide +kernel
theorem ddX4_nextDuty_1 : decode cX4_nextDuty 1 = .ok (.iload_n 1, 1) := by decide +kernel
theorem ddX4_nextDuty_2 : decode cX4_nextDuty 2 = .ok (.invokevirtual 94, 3) := by decide +kernel
theorem ddX4_nextDuty_5 : decode cX4_nextDuty 5 = .ok (.aload_n 0, 1) := by decide +kernel
theorem ddX4_nextDuty_6 : decode cX4_nextDuty 6 = .ok (.getfield 10, 3) := by decide +kernel
theorem ddX4_nextDuty_9 : decode cX4_nextDuty 9 = .ok (.iload_n 1, 1) := by decide +kernel
theorem ddX4_nextDuty_10 : decode cX4_nextDuty 10 = .ok (.invokevirtual 186, 3) := by decide +kernel
theorem ddX4_nextDuty_13 : decode cX4_nextDuty 13 = .ok (.istore_n 2, 1) := by decide +kernel
theorem ddX4_nextDuty_14 : decode cX4_nextDuty 14 = .ok (.iload_n 2, 1) := by decide +kernel
theorem ddX4_nextDuty_15 : decode cX4_nextDuty 15 = .ok (.iconst (-1), 1) := by decide +kernel
theorem ddX4_nextDuty_16 : decode cX4_nextDuty 16 = .ok (.if_icmp .ne 13, 3) := by decide +kernel
theorem ddX4_nextDuty_19 : decode cX4_nextDuty 19 = .ok (.new 147, 3) := by decide +kernel
theorem ddX4_nextDuty_22 : decode cX4_nextDuty 22 = .ok (.dup, 1) := by decide +kernel
theorem ddX4_nextDuty_23 : decode cX4_nextDuty 23 = .ok (.ldc 189, 2) := by decide +kernel
theorem ddX4_nextDuty_25 : decode cX4_nextDuty 25 = .ok (.invokespecial 151, 3) := by decide +kernel
theorem ddX4_nextDuty_28 : decode cX4_nextDuty 28 = .ok (.athrow, 1) := by decide +kernel
theorem ddX4_nextDuty_29 : decode cX4_nextDuty 29 = .ok (.iload_n 2, 1) := by decide +kernel
theorem ddX4_nextDuty_30 : decode cX4_nextDuty 30 = .ok (.ireturn, 1) := by decide +kernel
theorem ddX4_longestRest_0 : decode cX4_longestRest 0 = .ok (.aload_n 0, 1) := by decide +kernel
theorem ddX4_longestRest_1 : decode cX4_longestRest 1 = .ok (.iload_n 1, 1) := by decide +kernel
theorem ddX4_longestRest_2 : decode cX4_longestRest 2 = .ok (.invokevirtual 94, 3) := by decide +kernel
theorem ddX4_longestRest_5 : decode cX4_longestRest 5 = .ok (.aload_n 0, 1) := by decide +kernel
theorem ddX4_longestRest_6 : decode cX4_longestRest 6 = .ok (.getfield 10, 3) := by decide +kernel
theorem ddX4_longestRest_9 : decode cX4_longestRest 9 = .ok (.iload_n 1, 1) := by decide +kernel
theorem ddX4_longestRest_10 : decode cX4_longestRest 10 = .ok (.invokevirtual 191, 3) := by decide +kernel
theorem ddX4_longestRest_13 : decode cX4_longestRest 13 = .ok (.ireturn, 1) := by decide +kernel
theorem ddX4_guardByDuties_0 : decode cX4_guardByDuties 0 = .ok (.aload_n 0, 1) := by decide +kernel
theorem ddX4_guardByDuties_1 : decode cX4_guardByDuties 1 = .ok (.getfield 10, 3) := by decide +kernel
theorem ddX4_guardByDuties_4 : decode cX4_guardByDuties 4 = .ok (.iload_n 1, 1) := by decide +kernel
theorem ddX4_guardByDuties_5 : decode cX4_guardByDuties 5 = .ok (.invokevirtual 117, 3) := by decide +kernel
theorem ddX4_guardByDuties_8 : decode cX4_guardByDuties 8 = .ok (.ifCond .ne 13, 3) := by decide +kernel
theorem ddX4_guardByDuties_11 : decode cX4_guardByDuties 11 = .ok (.new 147, 3) := by decide +kernel
theorem ddX4_guardByDuties_14 : decode cX4_guardByDuties 14 = .ok (.dup, 1) := by decide +kernel
theorem ddX4_guardByDuties_15 : decode cX4_guardByDuties 15 = .ok (.ldc 194, 2) := by decide +kernel
theorem ddX4_guardByDuties_17 : decode cX4_guardByDuties 17 = .ok (.invokespecial 151, 3) := by decide +kernel
theorem ddX4_guardByDuties_20 : decode cX4_guardByDuties 20 = .ok (.athrow, 1) := by decide +kernel
theorem ddX4_guardByDuties_21 : decode cX4_guardByDuties 21 = .ok (.aload_n 0, 1) := by decide +kernel
theorem ddX4_guardByDuties_22 : decode cX4_guardByDuties 22 = .ok (.getfield 10, 3) := by decide +kernel
theorem ddX4_guardByDuties_25 : decode cX4_guardByDuties 25 = .ok (.iload_n 1, 1) := by decide +kernel
theorem ddX4_guardByDuties_26 : decode cX4_guardByDuties 26 = .ok (.invokevirtual 196, 3) := by decide +kernel
theorem ddX4_guardByDuties_29 : decode cX4_guardByDuties 29 = .ok (.ireturn, 1) := by decide +kernel
theorem ddX4_grantLeave_0 : decode cX4_grantLeave 0 = .ok (.aload_n 0, 1) := by decide +kernel
theorem ddX4_grantLeave_1 : decode cX4_grantLeave 1 = .ok (.iload_n 1, 1) := by decide +kernel
theorem ddX4_grantLeave_2 : decode cX4_grantLeave 2 = .ok (.iload_n 2, 1) := by decide +kernel
theorem ddX4_grantLeave_3 : decode cX4_grantLeave 3 = .ok (.iload_n 3, 1) := by decide +kernel
theorem ddX4_grantLeave_4 : decode cX4_grantLeave 4 = .ok (.invokevirtual 199, 3) := by decide +kernel
theorem ddX4_grantLeave_7 : decode cX4_grantLeave 7 = .ok (.invokestatic 56, 3) := by decide +kernel
theorem ddX4_grantLeave_10 : decode cX4_grantLeave 10 = .ok (.aload_n 0, 1) := by decide +kernel
theorem ddX4_grantLeave_11 : decode cX4_grantLeave 11 = .ok (.getfield 19, 3) := by decide +kernel
theorem ddX4_grantLeave_14 : decode cX4_grantLeave 14 = .ok (.aload_n 0, 1) := by decide +kernel
theorem ddX4_grantLeave_15 : decode cX4_grantLeave 15 = .ok (.getfield 10, 3) := by decide +kernel
theorem ddX4_grantLeave_18 : decode cX4_grantLeave 18 = .ok (.invokevirtual 60, 3) := by decide +kernel
theorem ddX4_grantLeave_21 : decode cX4_grantLeave 21 = .ok (.aload_n 0, 1) := by decide +kernel
theorem ddX4_grantLeave_22 : decode cX4_grantLeave 22 = .ok (.getfield 10, 3) := by decide +kernel
theorem ddX4_grantLeave_25 : decode cX4_grantLeave 25 = .ok (.iload_n 1, 1) := by decide +kernel
theorem ddX4_grantLeave_26 : decode cX4_grantLeave 26 = .ok (.iload_n 2, 1) := by decide +kernel
theorem ddX4_grantLeave_27 : decode cX4_grantLeave 27 = .ok (.iload_n 3, 1) := by decide +kernel
theorem ddX4_grantLeave_28 : decode cX4_grantLeave 28 = .ok (.invokevirtual 202, 3) := by decide +kernel
theorem ddX4_grantLeave_31 : decode cX4_grantLeave 31 = .ok (.ireturn, 1) := by decide +kernel
theorem ddX4_endLeave_0 : decode cX4_endLeave 0 = .ok (.aload_n 0, 1) := by decide +kernel
theorem ddX4_endLeave_1 : decode cX4_endLeave 1 = .ok (.iload_n 1, 1) := by decide +kernel
theorem ddX4_endLeave_2 : decode cX4_endLeave 2 = .ok (.iload_n 2, 1) := by decide +kernel
theorem ddX4_endLeave_3 : decode cX4_endLeave 3 = .ok (.invokevirtual 152, 3) := by decide +kernel
theorem ddX4_endLeave_6 : decode cX4_endLeave 6 = .ok (.aload_n 0, 1) := by decide +kernel
theorem ddX4_endLeave_7 : decode cX4_endLeave 7 = .ok (.getfield 10, 3) := by decide +kernel
theorem ddX4_endLeave_10 : decode cX4_endLeave 10 = .ok (.iload_n 1, 1) := by decide +kernel
theorem ddX4_endLeave_11 : decode cX4_endLeave 11 = .ok (.iload_n 2, 1) := by decide +kernel
theorem ddX4_endLeave_12 : decode cX4_endLeave 12 = .ok (.invokevirtual 205, 3) := by decide +kernel
theorem ddX4_endLeave_15 : decode cX4_endLeave 15 = .ok (.ifCond .ne 13, 3) := by decide +kernel
theorem ddX4_endLeave_18 : decode cX4_endLeave 18 = .ok (.new 147, 3) := by decide +kernel
theorem ddX4_endLeave_21 : decode cX4_endLeave 21 = .ok (.dup, 1) := by decide +kernel
theorem ddX4_endLeave_22 : decode cX4_endLeave 22 = .ok (.ldc 209, 2) := by decide +kernel
theorem ddX4_endLeave_24 : decode cX4_endLeave 24 = .ok (.invokespecial 151, 3) := by decide +kernel
theorem ddX4_endLeave_27 : decode cX4_endLeave 27 = .ok (.athrow, 1) := by decide +kernel
theorem ddX4_endLeave_28 : decode cX4_endLeave 28 = .ok (.aload_n 0, 1) := by decide +kernel
theorem ddX4_endLeave_29 : decode cX4_endLeave 29 = .ok (.getfield 19, 3) := by decide +kernel
theorem ddX4_endLeave_32 : decode cX4_endLeave 32 = .ok (.aload_n 0, 1) := by decide +kernel
theorem ddX4_endLeave_33 : decode cX4_endLeave 33 = .ok (.getfield 10, 3) := by decide +kernel
theorem ddX4_endLeave_36 : decode cX4_endLeave 36 = .ok (.invokevirtual 60, 3) := by decide +kernel
theorem ddX4_endLeave_39 : decode cX4_endLeave 39 = .ok (.aload_n 0, 1) := by decide +kernel
theorem ddX4_endLeave_40 : decode cX4_endLeave 40 = .ok (.getfield 10, 3) := by decide +kernel
theorem ddX4_endLeave_43 : decode cX4_endLeave 43 = .ok (.iload_n 1, 1) := by decide +kernel
theorem ddX4_endLeave_44 : decode cX4_endLeave 44 = .ok (.iload_n 2, 1) := by decide +kernel
theorem ddX4_endLeave_45 : decode cX4_endLeave 45 = .ok (.invokevirtual 211, 3) := by decide +kernel
theorem ddX4_endLeave_48 : decode cX4_endLeave 48 = .ok (.aload_n 0, 1) := by decide +kernel
theorem ddX4_endLeave_49 : decode cX4_endLeave 49 = .ok (.getfield 10, 3) := by decide +kernel
theorem ddX4_endLeave_52 : decode cX4_endLeave 52 = .ok (.iload_n 1, 1) := by decide +kernel
theorem ddX4_endLeave_53 : decode cX4_endLeave 53 = .ok (.invokevirtual 214, 3) := by decide +kernel
theorem ddX4_endLeave_56 : decode cX4_endLeave 56 = .ok (.ireturn, 1) := by decide +kernel
theorem ddX4_isOnLeave_0 : decode cX4_isOnLeave 0 = .ok (.aload_n 0, 1) := by decide +kernel
theorem ddX4_isOnLeave_1 : decode cX4_isOnLeave 1 = .ok (.iload_n 1, 1) := by decide +kernel
theorem ddX4_isOnLeave_2 : decode cX4_isOnLeave 2 = .ok (.iload_n 2, 1) := by decide +kernel
theorem ddX4_isOnLeave_3 : decode cX4_isOnLeave 3 = .ok (.invokevirtual 152, 3) := by decide +kernel
theorem ddX4_isOnLeave_6 : decode cX4_isOnLeave 6 = .ok (.aload_n 0, 1) := by decide +kernel
theorem ddX4_isOnLeave_7 : decode cX4_isOnLeave 7 = .ok (.getfield 10, 3) := by decide +kernel
theorem ddX4_isOnLeave_10 : decode cX4_isOnLeave 10 = .ok (.iload_n 1, 1) := by decide +kernel
theorem ddX4_isOnLeave_11 : decode cX4_isOnLeave 11 = .ok (.iload_n 2, 1) := by decide +kernel
theorem ddX4_isOnLeave_12 : decode cX4_isOnLeave 12 = .ok (.invokevirtual 205, 3) := by decide +kernel
theorem ddX4_isOnLeave_15 : decode cX4_isOnLeave 15 = .ok (.ireturn, 1) := by decide +kernel
theorem ddX4_leaveSlots_0 : decode cX4_leaveSlots 0 = .ok (.aload_n 0, 1) := by decide +kernel
theorem ddX4_leaveSlots_1 : decode cX4_leaveSlots 1 = .ok (.iload_n 1, 1) := by decide +kernel
theorem ddX4_leaveSlots_2 : decode cX4_leaveSlots 2 = .ok (.invokevirtual 94, 3) := by decide +kernel
theorem ddX4_leaveSlots_5 : decode cX4_leaveSlots 5 = .ok (.aload_n 0, 1) := by decide +kernel
theorem ddX4_leaveSlots_6 : decode cX4_leaveSlots 6 = .ok (.getfield 10, 3) := by decide +kernel
theorem ddX4_leaveSlots_9 : decode cX4_leaveSlots 9 = .ok (.iload_n 1, 1) := by decide +kernel
theorem ddX4_leaveSlots_10 : decode cX4_leaveSlots 10 = .ok (.invokevirtual 214, 3) := by decide +kernel
theorem ddX4_leaveSlots_13 : decode cX4_leaveSlots 13 = .ok (.ireturn, 1) := by decide +kernel
theorem ddX4_addRations_0 : decode cX4_addRations 0 = .ok (.aload_n 0, 1) := by decide +kernel
theorem ddX4_addRations_1 : decode cX4_addRations 1 = .ok (.iload_n 1, 1) := by decide +kernel
theorem ddX4_addRations_2 : decode cX4_addRations 2 = .ok (.invokevirtual 217, 3) := by decide +kernel
theorem ddX4_addRations_5 : decode cX4_addRations 5 = .ok (.invokestatic 56, 3) := by decide +kernel
theorem ddX4_addRations_8 : decode cX4_addRations 8 = .ok (.aload_n 0, 1) := by decide +kernel
theorem ddX4_addRations_9 : decode cX4_addRations 9 = .ok (.getfield 19, 3) := by decide +kernel
theorem ddX4_addRations_12 : decode cX4_addRations 12 = .ok (.aload_n 0, 1) := by decide +kernel
theorem ddX4_addRations_13 : decode cX4_addRations 13 = .ok (.getfield 10, 3) := by decide +kernel
theorem ddX4_addRations_16 : decode cX4_addRations 16 = .ok (.invokevirtual 60, 3) := by decide +kernel
theorem ddX4_addRations_19 : decode cX4_addRations 19 = .ok (.aload_n 0, 1) := by decide +kernel
theorem ddX4_addRations_20 : decode cX4_addRations 20 = .ok (.getfield 10, 3) := by decide +kernel
theorem ddX4_addRations_23 : decode cX4_addRations 23 = .ok (.iload_n 1, 1) := by decide +kernel
theorem ddX4_addRations_24 : decode cX4_addRations 24 = .ok (.invokevirtual 220, 3) := by decide +kernel
theorem ddX4_addRations_27 : decode cX4_addRations 27 = .ok (.aload_n 0, 1) := by decide +kernel
theorem ddX4_addRations_28 : decode cX4_addRations 28 = .ok (.getfield 10, 3) := by decide +kernel
theorem ddX4_addRations_31 : decode cX4_addRations 31 = .ok (.invokevirtual 223, 3) := by decide +kernel
theorem ddX4_addRations_34 : decode cX4_addRations 34 = .ok (.ireturn, 1) := by decide +kernel
theorem ddX4_passSlots_0 : decode cX4_passSlots 0 = .ok (.aload_n 0, 1) := by decide +kernel
theorem ddX4_passSlots_1 : decode cX4_passSlots 1 = .ok (.iload_n 1, 1) := by decide +kernel
theorem ddX4_passSlots_2 : decode cX4_passSlots 2 = .ok (.invokevirtual 226, 3) := by decide +kernel
theorem ddX4_passSlots_5 : decode cX4_passSlots 5 = .ok (.invokestatic 56, 3) := by decide +kernel
theorem ddX4_passSlots_8 : decode cX4_passSlots 8 = .ok (.aload_n 0, 1) := by decide +kernel
theorem ddX4_passSlots_9 : decode cX4_passSlots 9 = .ok (.getfield 19, 3) := by decide +kernel
theorem ddX4_passSlots_12 : decode cX4_passSlots 12 = .ok (.aload_n 0, 1) := by decide +kernel
theorem ddX4_passSlots_13 : decode cX4_passSlots 13 = .ok (.getfield 10, 3) := by decide +kernel
theorem ddX4_passSlots_16 : decode cX4_passSlots 16 = .ok (.invokevirtual 60, 3) := by decide +kernel
theorem ddX4_passSlots_19 : decode cX4_passSlots 19 = .ok (.aload_n 0, 1) := by decide +kernel
theorem ddX4_passSlots_20 : decode cX4_passSlots 20 = .ok (.getfield 10, 3) := by decide +kernel
theorem ddX4_passSlots_23 : decode cX4_passSlots 23 = .ok (.iload_n 1, 1) := by decide +kernel
theorem ddX4_passSlots_24 : decode cX4_passSlots 24 = .ok (.invokevirtual 229, 3) := by decide +kernel
theorem ddX4_passSlots_27 : decode cX4_passSlots 27 = .ok (.ireturn, 1) := by decide +kernel
theorem ddX4_rations_0 : decode cX4_rations 0 = .ok (.aload_n 0, 1) := by decide +kernel
theorem ddX4_rations_1 : decode cX4_rations 1 = .ok (.getfield 10, 3) := by decide +kernel
theorem ddX4_rations_4 : decode cX4_rations 4 = .ok (.invokevirtual 223, 3) := by decide +kernel
theorem ddX4_rations_7 : decode cX4_rations 7 = .ok (.ireturn, 1) := by decide +kernel
theorem ddX4_currentSlot_0 : decode cX4_currentSlot 0 = .ok (.aload_n 0, 1) := by decide +kernel
theorem ddX4_currentSlot_1 : decode cX4_currentSlot 1 = .ok (.getfield 10, 3) := by decide +kernel
theorem ddX4_currentSlot_4 : decode cX4_currentSlot 4 = .ok (.invokevirtual 173, 3) := by decide +kernel
theorem ddX4_currentSlot_7 : decode cX4_currentSlot 7 = .ok (.ireturn, 1) := by decide +kernel
theorem ddX4_missingRations_0 : decode cX4_missingRations 0 = .ok (.iconst 0, 1) := by decide +kernel
theorem ddX4_missingRations_1 : decode cX4_missingRations 1 = .ok (.aload_n 0, 1) := by decide +kernel
theorem ddX4_missingRations_2 : decode cX4_missingRations 2 = .ok (.getfield 10, 3) := by decide +kernel
theorem ddX4_missingRations_5 : decode cX4_missingRations 5 = .ok (.aload_n 0, 1) := by decide +kernel
theorem ddX4_missingRations_6 : decode cX4_missingRations 6 = .ok (.getfield 10, 3) := by decide +kernel
theorem ddX4_missingRations_9 : decode cX4_missingRations 9 = .ok (.invokevirtual 173, 3) := by decide +kernel
theorem ddX4_missingRations_12 : decode cX4_missingRations 12 = .ok (.invokevirtual 161, 3) := by decide +kernel
theorem ddX4_missingRations_15 : decode cX4_missingRations 15 = .ok (.aload_n 0, 1) := by decide +kernel
theorem ddX4_missingRations_16 : decode cX4_missingRations 16 = .ok (.getfield 10, 3) := by decide +kernel
theorem ddX4_missingRations_19 : decode cX4_missingRations 19 = .ok (.invokevirtual 223, 3) := by decide +kernel
theorem ddX4_missingRations_22 : decode cX4_missingRations 22 = .ok (.isub, 1) := by decide +kernel
theorem ddX4_missingRations_23 : decode cX4_missingRations 23 = .ok (.invokestatic 232, 3) := by decide +kernel
theorem ddX4_missingRations_26 : decode cX4_missingRations 26 = .ok (.ireturn, 1) := by decide +kernel
theorem ddX4_refusalReason_0 : decode cX4_refusalReason 0 = .ok (.aload_n 0, 1) := by decide +kernel
theorem ddX4_refusalReason_1 : decode cX4_refusalReason 1 = .ok (.invokevirtual 237, 3) := by decide +kernel
theorem ddX4_refusalReason_4 : decode cX4_refusalReason 4 = .ok (.aload_n 0, 1) := by decide +kernel
theorem ddX4_refusalReason_5 : decode cX4_refusalReason 5 = .ok (.getfield 240, 3) := by decide +kernel
theorem ddX4_refusalReason_8 : decode cX4_refusalReason 8 = .ok (.ireturn, 1) := by decide +kernel
theorem ddX4_refusalDetail_0 : decode cX4_refusalDetail 0 = .ok (.aload_n 0, 1) := by decide +kernel
theorem ddX4_refusalDetail_1 : decode cX4_refusalDetail 1 = .ok (.invokevirtual 237, 3) := by decide +kernel
theorem ddX4_refusalDetail_4 : decode cX4_refusalDetail 4 = .ok (.aload_n 0, 1) := by decide +kernel
theorem ddX4_refusalDetail_5 : decode cX4_refusalDetail 5 = .ok (.getfield 243, 3) := by decide +kernel
theorem ddX4_refusalDetail_8 : decode cX4_refusalDetail 8 = .ok (.ireturn, 1) := by decide +kernel
theorem ddX4_meanDuties_0 : decode cX4_meanDuties 0 = .ok (.aload_n 0, 1) := by decide +kernel
theorem ddX4_meanDuties_1 : decode cX4_meanDuties 1 = .ok (.getfield 10, 3) := by decide +kernel
theorem ddX4_meanDuties_4 : decode cX4_meanDuties 4 = .ok (.invokevirtual 77, 3) := by decide +kernel
theorem ddX4_meanDuties_7 : decode cX4_meanDuties 7 = .ok (.istore_n 1, 1) := by decide +kernel
theorem ddX4_meanDuties_8 : decode cX4_meanDuties 8 = .ok (.iload_n 1, 1) := by decide +kernel
theorem ddX4_meanDuties_9 : decode cX4_meanDuties 9 = .ok (.ifCond .gt 13, 3) := by decide +kernel
theorem ddX4_meanDuties_12 : decode cX4_meanDuties 12 = .ok (.new 246, 3) := by decide +kernel
theorem ddX4_meanDuties_15 : decode cX4_meanDuties 15 = .ok (.dup, 1) := by decide +kernel
theorem ddX4_meanDuties_16 : decode cX4_meanDuties 16 = .ok (.ldc 248, 2) := by decide +kernel
theorem ddX4_meanDuties_18 : decode cX4_meanDuties 18 = .ok (.invokespecial 250, 3) := by decide +kernel
theorem ddX4_meanDuties_21 : decode cX4_meanDuties 21 = .ok (.athrow, 1) := by decide +kernel
theorem ddX4_meanDuties_22 : decode cX4_meanDuties 22 = .ok (.aload_n 0, 1) := by decide +kernel
theorem ddX4_meanDuties_23 : decode cX4_meanDuties 23 = .ok (.getfield 10, 3) := by decide +kernel
theorem ddX4_meanDuties_26 : decode cX4_meanDuties 26 = .ok (.iconst 0, 1) := by decide +kernel
theorem ddX4_meanDuties_27 : decode cX4_meanDuties 27 = .ok (.invokevirtual 161, 3) := by decide +kernel
theorem ddX4_meanDuties_30 : decode cX4_meanDuties 30 = .ok (.i2d, 1) := by decide +kernel
theorem ddX4_meanDuties_31 : decode cX4_meanDuties 31 = .ok (.iload_n 1, 1) := by decide +kernel
theorem ddX4_meanDuties_32 : decode cX4_meanDuties 32 = .ok (.i2d, 1) := by decide +kernel
theorem ddX4_meanDuties_33 : decode cX4_meanDuties 33 = .ok (.ddiv, 1) := by decide +kernel
theorem ddX4_meanDuties_34 : decode cX4_meanDuties 34 = .ok (.dreturn, 1) := by decide +kernel
theorem ddX4_coveredFraction_0 : decode cX4_coveredFraction 0 = .ok (.bipush 28, 2) := by decide +kernel
theorem ddX4_coveredFraction_2 : decode cX4_coveredFraction 2 = .ok (.aload_n 0, 1) := by decide +kernel
theorem ddX4_coveredFraction_3 : decode cX4_coveredFraction 3 = .ok (.getfield 10, 3) := by decide +kernel
theorem ddX4_coveredFraction_6 : decode cX4_coveredFraction 6 = .ok (.invokevirtual 73, 3) := by decide +kernel
theorem ddX4_coveredFraction_9 : decode cX4_coveredFraction 9 = .ok (.imul, 1) := by decide +kernel
theorem ddX4_coveredFraction_10 : decode cX4_coveredFraction 10 = .ok (.istore_n 1, 1) := by decide +kernel
theorem ddX4_coveredFraction_11 : decode cX4_coveredFraction 11 = .ok (.iload_n 1, 1) := by decide +kernel
theorem ddX4_coveredFraction_12 : decode cX4_coveredFraction 12 = .ok (.ifCond .gt 13, 3) := by decide +kernel
theorem ddX4_coveredFraction_15 : decode cX4_coveredFraction 15 = .ok (.new 246, 3) := by decide +kernel
theorem ddX4_coveredFraction_18 : decode cX4_coveredFraction 18 = .ok (.dup, 1) := by decide +kernel
theorem ddX4_coveredFraction_19 : decode cX4_coveredFraction 19 = .ok (.ldc 251, 2) := by decide +kernel
theorem ddX4_coveredFraction_21 : decode cX4_coveredFraction 21 = .ok (.invokespecial 250, 3) := by decide +kernel
theorem ddX4_coveredFraction_24 : decode cX4_coveredFraction 24 = .ok (.athrow, 1) := by decide +kernel
theorem ddX4_coveredFraction_25 : decode cX4_coveredFraction 25 = .ok (.aload_n 0, 1) := by decide +kernel
theorem ddX4_coveredFraction_26 : decode cX4_coveredFraction 26 = .ok (.getfield 10, 3) := by decide +kernel
theorem ddX4_coveredFraction_29 : decode cX4_coveredFraction 29 = .ok (.iconst 0, 1) := by decide +kernel
theorem ddX4_coveredFraction_30 : decode cX4_coveredFraction 30 = .ok (.invokevirtual 161, 3) := by decide +kernel
theorem ddX4_coveredFraction_33 : decode cX4_coveredFraction 33 = .ok (.i2f, 1) := by decide +kernel
theorem ddX4_coveredFraction_34 : decode cX4_coveredFraction 34 = .ok (.iload_n 1, 1) := by decide +kernel
theorem ddX4_coveredFraction_35 : decode cX4_coveredFraction 35 = .ok (.i2f, 1) := by decide +kernel
theorem ddX4_coveredFraction_36 : decode cX4_coveredFraction 36 = .ok (.fdiv, 1) := by decide +kernel
theorem ddX4_coveredFraction_37 : decode cX4_coveredFraction 37 = .ok (.freturn, 1) := by decide +kernel
theorem ddX4_writeSlot_0 : decode cX4_writeSlot 0 = .ok (.aload_n 0, 1) := by decide +kernel
theorem ddX4_writeSlot_1 : decode cX4_writeSlot 1 = .ok (.iload_n 1, 1) := by decide +kernel
theorem ddX4_writeSlot_2 : decode cX4_writeSlot 2 = .ok (.invokevirtual 164, 3) := by decide +kernel
theorem ddX4_writeSlot_5 : decode cX4_writeSlot 5 = .ok (.aload_n 0, 1) := by decide +kernel
theorem ddX4_writeSlot_6 : decode cX4_writeSlot 6 = .ok (.iconst 0, 1) := by decide +kernel
theorem ddX4_writeSlot_7 : decode cX4_writeSlot 7 = .ok (.putfield 253, 3) := by decide +kernel
theorem ddX4_writeSlot_10 : decode cX4_writeSlot 10 = .ok (.aload_n 0, 1) := by decide +kernel
theorem ddX4_writeSlot_11 : decode cX4_writeSlot 11 = .ok (.iload_n 1, 1) := by decide +kernel
theorem ddX4_writeSlot_12 : decode cX4_writeSlot 12 = .ok (.iconst 2, 1) := by decide +kernel
theorem ddX4_writeSlot_13 : decode cX4_writeSlot 13 = .ok (.irem, 1) := by decide +kernel
theorem ddX4_writeSlot_14 : decode cX4_writeSlot 14 = .ok (.ifCond .ne 8, 3) := by decide +kernel
theorem ddX4_writeSlot_17 : decode cX4_writeSlot 17 = .ok (.bipush 100, 2) := by decide +kernel
theorem ddX4_writeSlot_19 : decode cX4_writeSlot 19 = .ok (.goto 5, 3) := by decide +kernel
theorem ddX4_writeSlot_22 : decode cX4_writeSlot 22 = .ok (.bipush 110, 2) := by decide +kernel
theorem ddX4_writeSlot_24 : decode cX4_writeSlot 24 = .ok (.invokevirtual 256, 3) := by decide +kernel
theorem ddX4_writeSlot_27 : decode cX4_writeSlot 27 = .ok (.aload_n 0, 1) := by decide +kernel
theorem ddX4_writeSlot_28 : decode cX4_writeSlot 28 = .ok (.iload_n 1, 1) := by decide +kernel
theorem ddX4_writeSlot_29 : decode cX4_writeSlot 29 = .ok (.iconst 2, 1) := by decide +kernel
theorem ddX4_writeSlot_30 : decode cX4_writeSlot 30 = .ok (.idiv, 1) := by decide +kernel
theorem ddX4_writeSlot_31 : decode cX4_writeSlot 31 = .ok (.invokevirtual 260, 3) := by decide +kernel
theorem ddX4_writeSlot_34 : decode cX4_writeSlot 34 = .ok (.aload_n 0, 1) := by decide +kernel
theorem ddX4_writeSlot_35 : decode cX4_writeSlot 35 = .ok (.bipush 58, 2) := by decide +kernel
theorem ddX4_writeSlot_37 : decode cX4_writeSlot 37 = .ok (.invokevirtual 256, 3) := by decide +kernel
theorem ddX4_writeSlot_40 : decode cX4_writeSlot 40 = .ok (.iconst 0, 1) := by decide +kernel
theorem ddX4_writeSlot_41 : decode cX4_writeSlot 41 = .ok (.istore_n 2, 1) := by decide +kernel
theorem ddX4_writeSlot_42 : decode cX4_writeSlot 42 = .ok (.iload_n 2, 1) := by decide +kernel
theorem ddX4_writeSlot_43 : decode cX4_writeSlot 43 = .ok (.aload_n 0, 1) := by decide +kernel
theorem ddX4_writeSlot_44 : decode cX4_writeSlot 44 = .ok (.getfield 10, 3) := by decide +kernel
theorem ddX4_writeSlot_47 : decode cX4_writeSlot 47 = .ok (.invokevirtual 73, 3) := by decide +kernel
theorem ddX4_writeSlot_50 : decode cX4_writeSlot 50 = .ok (.if_icmp .ge 30, 3) := by decide +kernel
theorem ddX4_writeSlot_53 : decode cX4_writeSlot 53 = .ok (.aload_n 0, 1) := by decide +kernel
theorem ddX4_writeSlot_54 : decode cX4_writeSlot 54 = .ok (.bipush 32, 2) := by decide +kernel
theorem ddX4_writeSlot_56 : decode cX4_writeSlot 56 = .ok (.invokevirtual 256, 3) := by decide +kernel
theorem ddX4_writeSlot_59 : decode cX4_writeSlot 59 = .ok (.aload_n 0, 1) := by decide +kernel
theorem ddX4_writeSlot_60 : decode cX4_writeSlot 60 = .ok (.aload_n 0, 1) := by decide +kernel
theorem ddX4_writeSlot_61 : decode cX4_writeSlot 61 = .ok (.getfield 10, 3) := by decide +kernel
theorem ddX4_writeSlot_64 : decode cX4_writeSlot 64 = .ok (.iload_n 2, 1) := by decide +kernel
theorem ddX4_writeSlot_65 : decode cX4_writeSlot 65 = .ok (.iload_n 1, 1) := by decide +kernel
theorem ddX4_writeSlot_66 : decode cX4_writeSlot 66 = .ok (.invokevirtual 132, 3) := by decide +kernel
theorem ddX4_writeSlot_69 : decode cX4_writeSlot 69 = .ok (.bipush 45, 2) := by decide +kernel
theorem ddX4_writeSlot_71 : decode cX4_writeSlot 71 = .ok (.invokevirtual 263, 3) := by decide +kernel
theorem ddX4_writeSlot_74 : decode cX4_writeSlot 74 = .ok (.iinc 2 1, 3) := by decide +kernel
theorem ddX4_writeSlot_77 : decode cX4_writeSlot 77 = .ok (.goto (-35), 3) := by decide +kernel
theorem ddX4_writeSlot_80 : decode cX4_writeSlot 80 = .ok (.aload_n 0, 1) := by decide +kernel
theorem ddX4_writeSlot_81 : decode cX4_writeSlot 81 = .ok (.getfield 253, 3) := by decide +kernel
theorem ddX4_writeSlot_84 : decode cX4_writeSlot 84 = .ok (.ireturn, 1) := by decide +kernel
theorem ddX4_writeGuard_0 : decode cX4_writeGuard 0 = .ok (.aload_n 0, 1) := by decide +kernel
theorem ddX4_writeGuard_1 : decode cX4_writeGuard 1 = .ok (.iload_n 1, 1) := by decide +kernel
theorem ddX4_writeGuard_2 : decode cX4_writeGuard 2 = .ok (.invokevirtual 94, 3) := by decide +kernel
theorem ddX4_writeGuard_5 : decode cX4_writeGuard 5 = .ok (.aload_n 0, 1) := by decide +kernel
theorem ddX4_writeGuard_6 : decode cX4_writeGuard 6 = .ok (.iconst 0, 1) := by decide +kernel
theorem ddX4_writeGuard_7 : decode cX4_writeGuard 7 = .ok (.putfield 253, 3) := by decide +kernel
theorem ddX4_writeGuard_10 : decode cX4_writeGuard 10 = .ok (.iconst 0, 1) := by decide +kernel
theorem ddX4_writeGuard_11 : decode cX4_writeGuard 11 = .ok (.istore_n 2, 1) := by decide +kernel
theorem ddX4_writeGuard_12 : decode cX4_writeGuard 12 = .ok (.iload_n 2, 1) := by decide +kernel
theorem ddX4_writeGuard_13 : decode cX4_writeGuard 13 = .ok (.bipush 28, 2) := by decide +kernel
theorem ddX4_writeGuard_15 : decode cX4_writeGuard 15 = .ok (.if_icmp .ge 41, 3) := by decide +kernel
theorem ddX4_writeGuard_18 : decode cX4_writeGuard 18 = .ok (.aload_n 0, 1) := by decide +kernel
theorem ddX4_writeGuard_19 : decode cX4_writeGuard 19 = .ok (.aload_n 0, 1) := by decide +kernel
theorem ddX4_writeGuard_20 : decode cX4_writeGuard 20 = .ok (.getfield 10, 3) := by decide +kernel
theorem ddX4_writeGuard_23 : decode cX4_writeGuard 23 = .ok (.iload_n 1, 1) := by decide +kernel
theorem ddX4_writeGuard_24 : decode cX4_writeGuard 24 = .ok (.iload_n 2, 1) := by decide +kernel
theorem ddX4_writeGuard_25 : decode cX4_writeGuard 25 = .ok (.invokevirtual 156, 3) := by decide +kernel
theorem ddX4_writeGuard_28 : decode cX4_writeGuard 28 = .ok (.aload_n 0, 1) := by decide +kernel
theorem ddX4_writeGuard_29 : decode cX4_writeGuard 29 = .ok (.getfield 10, 3) := by decide +kernel
theorem ddX4_writeGuard_32 : decode cX4_writeGuard 32 = .ok (.iload_n 1, 1) := by decide +kernel
theorem ddX4_writeGuard_33 : decode cX4_writeGuard 33 = .ok (.iload_n 2, 1) := by decide +kernel
theorem ddX4_writeGuard_34 : decode cX4_writeGuard 34 = .ok (.invokevirtual 205, 3) := by decide +kernel
theorem ddX4_writeGuard_37 : decode cX4_writeGuard 37 = .ok (.ifCond .eq 8, 3) := by decide +kernel
theorem ddX4_writeGuard_40 : decode cX4_writeGuard 40 = .ok (.bipush 120, 2) := by decide +kernel
theorem ddX4_writeGuard_42 : decode cX4_writeGuard 42 = .ok (.goto 5, 3) := by decide +kernel
theorem ddX4_writeGuard_45 : decode cX4_writeGuard 45 = .ok (.bipush 46, 2) := by decide +kernel
theorem ddX4_writeGuard_47 : decode cX4_writeGuard 47 = .ok (.invokevirtual 263, 3) := by decide +kernel
theorem ddX4_writeGuard_50 : decode cX4_writeGuard 50 = .ok (.iinc 2 1, 3) := by decide +kernel
theorem ddX4_writeGuard_53 : decode cX4_writeGuard 53 = .ok (.goto (-41), 3) := by decide +kernel
theorem ddX4_writeGuard_56 : decode cX4_writeGuard 56 = .ok (.aload_n 0, 1) := by decide +kernel
theorem ddX4_writeGuard_57 : decode cX4_writeGuard 57 = .ok (.getfield 253, 3) := by decide +kernel
theorem ddX4_writeGuard_60 : decode cX4_writeGuard 60 = .ok (.ireturn, 1) := by decide +kernel
theorem ddX4_outputCharacter_0 : decode cX4_outputCharacter 0 = .ok (.iload_n 1, 1) := by decide +kernel
theorem ddX4_outputCharacter_1 : decode cX4_outputCharacter 1 = .ok (.ifCond .lt 17, 3) := by decide +kernel
theorem ddX4_outputCharacter_4 : decode cX4_outputCharacter 4 = .ok (.iload_n 1, 1) := by decide +kernel
theorem ddX4_outputCharacter_5 : decode cX4_outputCharacter 5 = .ok (.aload_n 0, 1) := by decide +kernel
theorem ddX4_outputCharacter_6 : decode cX4_outputCharacter 6 = .ok (.getfield 253, 3) := by decide +kernel
theorem ddX4_outputCharacter_9 : decode cX4_outputCharacter 9 = .ok (.if_icmp .ge 9, 3) := by decide +kernel
theorem ddX4_outputCharacter_12 : decode cX4_outputCharacter 12 = .ok (.iload_n 1, 1) := by decide +kernel
theorem ddX4_outputCharacter_13 : decode cX4_outputCharacter 13 = .ok (.bipush 28, 2) := by decide +kernel
theorem ddX4_outputCharacter_15 : decode cX4_outputCharacter 15 = .ok (.if_icmp .lt 14, 3) := by decide +kernel
theorem ddX4_outputCharacter_18 : decode cX4_outputCharacter 18 = .ok (.new 84, 3) := by decide +kernel
theorem ddX4_outputCharacter_21 : decode cX4_outputCharacter 21 = .ok (.dup, 1) := by decide +kernel
theorem ddX4_outputCharacter_22 : decode cX4_outputCharacter 22 = .ok (.ldc_w 267, 3) := by decide +kernel
theorem ddX4_outputCharacter_25 : decode cX4_outputCharacter 25 = .ok (.invokespecial 88, 3) := by decide +kernel
theorem ddX4_outputCharacter_28 : decode cX4_outputCharacter 28 = .ok (.athrow, 1) := by decide +kernel
theorem ddX4_outputCharacter_29 : decode cX4_outputCharacter 29 = .ok (.aload_n 0, 1) := by decide +kernel
theorem ddX4_outputCharacter_30 : decode cX4_outputCharacter 30 = .ok (.getfield 41, 3) := by decide +kernel
theorem ddX4_outputCharacter_33 : decode cX4_outputCharacter 33 = .ok (.iload_n 1, 1) := by decide +kernel
theorem ddX4_outputCharacter_34 : decode cX4_outputCharacter 34 = .ok (.caload, 1) := by decide +kernel
theorem ddX4_outputCharacter_35 : decode cX4_outputCharacter 35 = .ok (.ireturn, 1) := by decide +kernel
theorem ddX4_isConsistent_0 : decode cX4_isConsistent 0 = .ok (.aload_n 0, 1) := by decide +kernel
theorem ddX4_isConsistent_1 : decode cX4_isConsistent 1 = .ok (.invokevirtual 269, 3) := by decide +kernel
theorem ddX4_isConsistent_4 : decode cX4_isConsistent 4 = .ok (.aload_n 0, 1) := by decide +kernel
theorem ddX4_isConsistent_5 : decode cX4_isConsistent 5 = .ok (.invokevirtual 272, 3) := by decide +kernel
theorem ddX4_isConsistent_8 : decode cX4_isConsistent 8 = .ok (.if_icmp .eq 5, 3) := by decide +kernel
theorem ddX4_isConsistent_11 : decode cX4_isConsistent 11 = .ok (.iconst 0, 1) := by decide +kernel
theorem ddX4_isConsistent_12 : decode cX4_isConsistent 12 = .ok (.ireturn, 1) := by decide +kernel
theorem ddX4_isConsistent_13 : decode cX4_isConsistent 13 = .ok (.iconst 0, 1) := by decide +kernel
theorem ddX4_isConsistent_14 : decode cX4_isConsistent 14 = .ok (.istore_n 1, 1) := by decide +kernel
theorem ddX4_isConsistent_15 : decode cX4_isConsistent 15 = .ok (.iload_n 1, 1) := by decide +kernel
theorem ddX4_isConsistent_16 : decode cX4_isConsistent 16 = .ok (.bipush 28, 2) := by decide +kernel
theorem ddX4_isConsistent_18 : decode cX4_isConsistent 18 = .ok (.if_icmp .ge 24, 3) := by decide +kernel
theorem ddX4_isConsistent_21 : decode cX4_isConsistent 21 = .ok (.aload_n 0, 1) := by decide +kernel
theorem ddX4_isConsistent_22 : decode cX4_isConsistent 22 = .ok (.iload_n 1, 1) := by decide +kernel
theorem ddX4_isConsistent_23 : decode cX4_isConsistent 23 = .ok (.invokevirtual 275, 3) := by decide +kernel
theorem ddX4_isConsistent_26 : decode cX4_isConsistent 26 = .ok (.aload_n 0, 1) := by decide +kernel
theorem ddX4_isConsistent_27 : decode cX4_isConsistent 27 = .ok (.iload_n 1, 1) := by decide +kernel
theorem ddX4_isConsistent_28 : decode cX4_isConsistent 28 = .ok (.invokevirtual 278, 3) := by decide +kernel
theorem ddX4_isConsistent_31 : decode cX4_isConsistent 31 = .ok (.if_icmp .eq 5, 3) := by decide +kernel
theorem ddX4_isConsistent_34 : decode cX4_isConsistent 34 = .ok (.iconst 0, 1) := by decide +kernel
theorem ddX4_isConsistent_35 : decode cX4_isConsistent 35 = .ok (.ireturn, 1) := by decide +kernel
theorem ddX4_isConsistent_36 : decode cX4_isConsistent 36 = .ok (.iinc 1 1, 3) := by decide +kernel
theorem ddX4_isConsistent_39 : decode cX4_isConsistent 39 = .ok (.goto (-24), 3) := by decide +kernel
theorem ddX4_isConsistent_42 : decode cX4_isConsistent 42 = .ok (.aload_n 0, 1) := by decide +kernel
theorem ddX4_isConsistent_43 : decode cX4_isConsistent 43 = .ok (.getfield 10, 3) := by decide +kernel
theorem ddX4_isConsistent_46 : decode cX4_isConsistent 46 = .ok (.invokevirtual 281, 3) := by decide +kernel
theorem ddX4_isConsistent_49 : decode cX4_isConsistent 49 = .ok (.ireturn, 1) := by decide +kernel
theorem ddX4_feed_0 : decode cX4_feed 0 = .ok (.aload_n 0, 1) := by decide +kernel
theorem ddX4_feed_1 : decode cX4_feed 1 = .ok (.getfield 33, 3) := by decide +kernel
theorem ddX4_feed_4 : decode cX4_feed 4 = .ok (.invokevirtual 285, 3) := by decide +kernel
theorem ddX4_feed_7 : decode cX4_feed 7 = .ok (.ifCond .eq 14, 3) := by decide +kernel
theorem ddX4_feed_10 : decode cX4_feed 10 = .ok (.new 288, 3) := by decide +kernel
theorem ddX4_feed_13 : decode cX4_feed 13 = .ok (.dup, 1) := by decide +kernel
theorem ddX4_feed_14 : decode cX4_feed 14 = .ok (.ldc_w 290, 3) := by decide +kernel
theorem ddX4_feed_17 : decode cX4_feed 17 = .ok (.invokespecial 292, 3) := by decide +kernel
theorem ddX4_feed_20 : decode cX4_feed 20 = .ok (.athrow, 1) := by decide +kernel
theorem ddX4_feed_21 : decode cX4_feed 21 = .ok (.aload_n 0, 1) := by decide +kernel
theorem ddX4_feed_22 : decode cX4_feed 22 = .ok (.getfield 33, 3) := by decide +kernel
theorem ddX4_feed_25 : decode cX4_feed 25 = .ok (.iload_n 1, 1) := by decide +kernel
theorem ddX4_feed_26 : decode cX4_feed 26 = .ok (.invokevirtual 293, 3) := by decide +kernel
theorem ddX4_feed_29 : decode cX4_feed 29 = .ok (.ireturn, 1) := by decide +kernel
theorem ddX4_execute_0 : decode cX4_execute 0 = .ok (.aload_n 0, 1) := by decide +kernel
theorem ddX4_execute_1 : decode cX4_execute 1 = .ok (.getfield 33, 3) := by decide +kernel
theorem ddX4_execute_4 : decode cX4_execute 4 = .ok (.invokevirtual 297, 3) := by decide +kernel
theorem ddX4_execute_7 : decode cX4_execute 7 = .ok (.istore_n 1, 1) := by decide +kernel
theorem ddX4_execute_8 : decode cX4_execute 8 = .ok (.aload_n 0, 1) := by decide +kernel
theorem ddX4_execute_9 : decode cX4_execute 9 = .ok (.getfield 33, 3) := by decide +kernel
theorem ddX4_execute_12 : decode cX4_execute 12 = .ok (.invokevirtual 300, 3) := by decide +kernel
theorem ddX4_execute_15 : decode cX4_execute 15 = .ok (.iload_n 1, 1) := by decide +kernel
theorem ddX4_execute_16 : decode cX4_execute 16 = .ok (.ifCond .ne 25, 3) := by decide +kernel
theorem ddX4_execute_19 : decode cX4_execute 19 = .ok (.aload_n 0, 1) := by decide +kernel
theorem ddX4_execute_20 : decode cX4_execute 20 = .ok (.aload_n 0, 1) := by decide +kernel
theorem ddX4_execute_21 : decode cX4_execute 21 = .ok (.getfield 33, 3) := by decide +kernel
theorem ddX4_execute_24 : decode cX4_execute 24 = .ok (.invokevirtual 303, 3) := by decide +kernel
theorem ddX4_execute_27 : decode cX4_execute 27 = .ok (.putfield 45, 3) := by decide +kernel
theorem ddX4_execute_30 : decode cX4_execute 30 = .ok (.new 306, 3) := by decide +kernel
theorem ddX4_execute_33 : decode cX4_execute 33 = .ok (.dup, 1) := by decide +kernel
theorem ddX4_execute_34 : decode cX4_execute 34 = .ok (.ldc_w 308, 3) := by decide +kernel
theorem ddX4_execute_37 : decode cX4_execute 37 = .ok (.invokespecial 310, 3) := by decide +kernel
theorem ddX4_execute_40 : decode cX4_execute 40 = .ok (.athrow, 1) := by decide +kernel
theorem ddX4_execute_41 : decode cX4_execute 41 = .ok (.aload_n 0, 1) := by decide +kernel
theorem ddX4_execute_42 : decode cX4_execute 42 = .ok (.getfield 19, 3) := by decide +kernel
theorem ddX4_execute_45 : decode cX4_execute 45 = .ok (.aload_n 0, 1) := by decide +kernel
theorem ddX4_execute_46 : decode cX4_execute 46 = .ok (.getfield 10, 3) := by decide +kernel
theorem ddX4_execute_49 : decode cX4_execute 49 = .ok (.invokevirtual 311, 3) := by decide +kernel
theorem ddX4_execute_52 : decode cX4_execute 52 = .ok (.iconst 0, 1) := by decide +kernel
theorem ddX4_execute_53 : decode cX4_execute 53 = .ok (.istore_n 2, 1) := by decide +kernel
theorem ddX4_execute_54 : decode cX4_execute 54 = .ok (.iload_n 2, 1) := by decide +kernel
theorem ddX4_execute_55 : decode cX4_execute 55 = .ok (.aload_n 0, 1) := by decide +kernel
theorem ddX4_execute_56 : decode cX4_execute 56 = .ok (.getfield 33, 3) := by decide +kernel
theorem ddX4_execute_59 : decode cX4_execute 59 = .ok (.invokevirtual 314, 3) := by decide +kernel
theorem ddX4_execute_62 : decode cX4_execute 62 = .ok (.if_icmp .ge 44, 3) := by decide +kernel
theorem ddX4_execute_65 : decode cX4_execute 65 = .ok (.aload_n 0, 1) := by decide +kernel
theorem ddX4_execute_66 : decode cX4_execute 66 = .ok (.iload_n 2, 1) := by decide +kernel
theorem ddX4_execute_67 : decode cX4_execute 67 = .ok (.invokevirtual 317, 3) := by decide +kernel
theorem ddX4_execute_70 : decode cX4_execute 70 = .ok (.ifCond .ne 30, 3) := by decide +kernel
theorem ddX4_execute_73 : decode cX4_execute 73 = .ok (.aload_n 0, 1) := by decide +kernel
theorem ddX4_execute_74 : decode cX4_execute 74 = .ok (.getfield 19, 3) := by decide +kernel
theorem ddX4_execute_77 : decode cX4_execute 77 = .ok (.aload_n 0, 1) := by decide +kernel
theorem ddX4_execute_78 : decode cX4_execute 78 = .ok (.getfield 10, 3) := by decide +kernel
theorem ddX4_execute_81 : decode cX4_execute 81 = .ok (.invokevirtual 320, 3) := by decide +kernel
theorem ddX4_execute_84 : decode cX4_execute 84 = .ok (.aload_n 0, 1) := by decide +kernel
theorem ddX4_execute_85 : decode cX4_execute 85 = .ok (.iload_n 2, 1) := by decide +kernel
theorem ddX4_execute_86 : decode cX4_execute 86 = .ok (.putfield 49, 3) := by decide +kernel
theorem ddX4_execute_89 : decode cX4_execute 89 = .ok (.new 323, 3) := by decide +kernel
theorem ddX4_execute_92 : decode cX4_execute 92 = .ok (.dup, 1) := by decide +kernel
theorem ddX4_execute_93 : decode cX4_execute 93 = .ok (.ldc_w 325, 3) := by decide +kernel
theorem ddX4_execute_96 : decode cX4_execute 96 = .ok (.invokespecial 327, 3) := by decide +kernel
theorem ddX4_execute_99 : decode cX4_execute 99 = .ok (.athrow, 1) := by decide +kernel
theorem ddX4_execute_100 : decode cX4_execute 100 = .ok (.iinc 2 1, 3) := by decide +kernel
theorem ddX4_execute_103 : decode cX4_execute 103 = .ok (.goto (-49), 3) := by decide +kernel
theorem ddX4_execute_106 : decode cX4_execute 106 = .ok (.aload_n 0, 1) := by decide +kernel
theorem ddX4_execute_107 : decode cX4_execute 107 = .ok (.getfield 19, 3) := by decide +kernel
theorem ddX4_execute_110 : decode cX4_execute 110 = .ok (.invokevirtual 328, 3) := by decide +kernel
theorem ddX4_execute_113 : decode cX4_execute 113 = .ok (.aload_n 0, 1) := by decide +kernel
theorem ddX4_execute_114 : decode cX4_execute 114 = .ok (.getfield 33, 3) := by decide +kernel
theorem ddX4_execute_117 : decode cX4_execute 117 = .ok (.invokevirtual 314, 3) := by decide +kernel
theorem ddX4_execute_120 : decode cX4_execute 120 = .ok (.ireturn, 1) := by decide +kernel
theorem ddX4_errorPosition_0 : decode cX4_errorPosition 0 = .ok (.aload_n 0, 1) := by decide +kernel
theorem ddX4_errorPosition_1 : decode cX4_errorPosition 1 = .ok (.getfield 45, 3) := by decide +kernel
theorem ddX4_errorPosition_4 : decode cX4_errorPosition 4 = .ok (.iconst (-1), 1) := by decide +kernel
theorem ddX4_errorPosition_5 : decode cX4_errorPosition 5 = .ok (.if_icmp .ne 14, 3) := by decide +kernel
theorem ddX4_errorPosition_8 : decode cX4_errorPosition 8 = .ok (.new 147, 3) := by decide +kernel
theorem ddX4_errorPosition_11 : decode cX4_errorPosition 11 = .ok (.dup, 1) := by decide +kernel
theorem ddX4_errorPosition_12 : decode cX4_errorPosition 12 = .ok (.ldc_w 331, 3) := by decide +kernel
theorem ddX4_errorPosition_15 : decode cX4_errorPosition 15 = .ok (.invokespecial 151, 3) := by decide +kernel
theorem ddX4_errorPosition_18 : decode cX4_errorPosition 18 = .ok (.athrow, 1) := by decide +kernel
theorem ddX4_errorPosition_19 : decode cX4_errorPosition 19 = .ok (.aload_n 0, 1) := by decide +kernel
theorem ddX4_errorPosition_20 : decode cX4_errorPosition 20 = .ok (.getfield 45, 3) := by decide +kernel
theorem ddX4_errorPosition_23 : decode cX4_errorPosition 23 = .ok (.ireturn, 1) := by decide +kernel
theorem ddX4_failedCommand_0 : decode cX4_failedCommand 0 = .ok (.aload_n 0, 1) := by decide +kernel
theorem ddX4_failedCommand_1 : decode cX4_failedCommand 1 = .ok (.getfield 49, 3) := by decide +kernel
theorem ddX4_failedCommand_4 : decode cX4_failedCommand 4 = .ok (.iconst (-1), 1) := by decide +kernel
theorem ddX4_failedCommand_5 : decode cX4_failedCommand 5 = .ok (.if_icmp .ne 14, 3) := by decide +kernel
theorem ddX4_failedCommand_8 : decode cX4_failedCommand 8 = .ok (.new 147, 3) := by decide +kernel
theorem ddX4_failedCommand_11 : decode cX4_failedCommand 11 = .ok (.dup, 1) := by decide +kernel
theorem ddX4_failedCommand_12 : decode cX4_failedCommand 12 = .ok (.ldc_w 333, 3) := by decide +kernel
theorem ddX4_failedCommand_15 : decode cX4_failedCommand 15 = .ok (.invokespecial 151, 3) := by decide +kernel
theorem ddX4_failedCommand_18 : decode cX4_failedCommand 18 = .ok (.athrow, 1) := by decide +kernel
theorem ddX4_failedCommand_19 : decode cX4_failedCommand 19 = .ok (.aload_n 0, 1) := by decide +kernel
theorem ddX4_failedCommand_20 : decode cX4_failedCommand 20 = .ok (.getfield 49, 3) := by decide +kernel
theorem ddX4_failedCommand_23 : decode cX4_failedCommand 23 = .ok (.ireturn, 1) := by decide +kernel
theorem ddX4_undo_0 : decode cX4_undo 0 = .ok (.aload_n 0, 1) := by decide +kernel
theorem ddX4_undo_1 : decode cX4_undo 1 = .ok (.getfield 19, 3) := by decide +kernel
theorem ddX4_undo_4 : decode cX4_undo 4 = .ok (.invokevirtual 335, 3) := by decide +kernel
theorem ddX4_undo_7 : decode cX4_undo 7 = .ok (.ifCond .ne 14, 3) := by decide +kernel
theorem ddX4_undo_10 : decode cX4_undo 10 = .ok (.new 288, 3) := by decide +kernel
theorem ddX4_undo_13 : decode cX4_undo 13 = .ok (.dup, 1) := by decide +kernel
theorem ddX4_undo_14 : decode cX4_undo 14 = .ok (.ldc_w 338, 3) := by decide +kernel
theorem ddX4_undo_17 : decode cX4_undo 17 = .ok (.invokespecial 292, 3) := by decide +kernel
theorem ddX4_undo_20 : decode cX4_undo 20 = .ok (.athrow, 1) := by decide +kernel
theorem ddX4_undo_21 : decode cX4_undo 21 = .ok (.aload_n 0, 1) := by decide +kernel
theorem ddX4_undo_22 : decode cX4_undo 22 = .ok (.getfield 19, 3) := by decide +kernel
theorem ddX4_undo_25 : decode cX4_undo 25 = .ok (.aload_n 0, 1) := by decide +kernel
theorem ddX4_undo_26 : decode cX4_undo 26 = .ok (.getfield 10, 3) := by decide +kernel
theorem ddX4_undo_29 : decode cX4_undo 29 = .ok (.invokevirtual 340, 3) := by decide +kernel
theorem ddX4_undo_32 : decode cX4_undo 32 = .ok (.aload_n 0, 1) := by decide +kernel
theorem ddX4_undo_33 : decode cX4_undo 33 = .ok (.getfield 19, 3) := by decide +kernel
theorem ddX4_undo_36 : decode cX4_undo 36 = .ok (.invokevirtual 335, 3) := by decide +kernel
theorem ddX4_undo_39 : decode cX4_undo 39 = .ok (.ireturn, 1) := by decide +kernel
theorem ddX4_undoCount_0 : decode cX4_undoCount 0 = .ok (.aload_n 0, 1) := by decide +kernel
theorem ddX4_undoCount_1 : decode cX4_undoCount 1 = .ok (.getfield 19, 3) := by decide +kernel
theorem ddX4_undoCount_4 : decode cX4_undoCount 4 = .ok (.invokevirtual 335, 3) := by decide +kernel
theorem ddX4_undoCount_7 : decode cX4_undoCount 7 = .ok (.ireturn, 1) := by decide +kernel
theorem ddX4_save_0 : decode cX4_save 0 = .ok (.aload_n 0, 1) := by decide +kernel
theorem ddX4_save_1 : decode cX4_save 1 = .ok (.getfield 10, 3) := by decide +kernel
theorem ddX4_save_4 : decode cX4_save 4 = .ok (.aload_n 0, 1) := by decide +kernel
theorem ddX4_save_5 : decode cX4_save 5 = .ok (.getfield 37, 3) := by decide +kernel
theorem ddX4_save_8 : decode cX4_save 8 = .ok (.invokevirtual 343, 3) := by decide +kernel
theorem ddX4_save_11 : decode cX4_save 11 = .ok (.aload_n 0, 1) := by decide +kernel
theorem ddX4_save_12 : decode cX4_save 12 = .ok (.iconst 1, 1) := by decide +kernel
theorem ddX4_save_13 : decode cX4_save 13 = .ok (.putfield 347, 3) := by decide +kernel
theorem ddX4_save_16 : decode cX4_save 16 = .ok (.aload_n 0, 1) := by decide +kernel
theorem ddX4_save_17 : decode cX4_save 17 = .ok (.getfield 10, 3) := by decide +kernel
theorem ddX4_save_20 : decode cX4_save 20 = .ok (.invokevirtual 77, 3) := by decide +kernel
theorem ddX4_save_23 : decode cX4_save 23 = .ok (.ireturn, 1) := by decide +kernel
theorem ddX4_restore_0 : decode cX4_restore 0 = .ok (.aload_n 0, 1) := by decide +kernel
theorem ddX4_restore_1 : decode cX4_restore 1 = .ok (.getfield 347, 3) := by decide +kernel
theorem ddX4_restore_4 : decode cX4_restore 4 = .ok (.ifCond .ne 14, 3) := by decide +kernel
theorem ddX4_restore_7 : decode cX4_restore 7 = .ok (.new 288, 3) := by decide +kernel
theorem ddX4_restore_10 : decode cX4_restore 10 = .ok (.dup, 1) := by decide +kernel
theorem ddX4_restore_11 : decode cX4_restore 11 = .ok (.ldc_w 351, 3) := by decide +kernel
theorem ddX4_restore_14 : decode cX4_restore 14 = .ok (.invokespecial 292, 3) := by decide +kernel
theorem ddX4_restore_17 : decode cX4_restore 17 = .ok (.athrow, 1) := by decide +kernel
theorem ddX4_restore_18 : decode cX4_restore 18 = .ok (.aload_n 0, 1) := by decide +kernel
theorem ddX4_restore_19 : decode cX4_restore 19 = .ok (.getfield 10, 3) := by decide +kernel
theorem ddX4_restore_22 : decode cX4_restore 22 = .ok (.aload_n 0, 1) := by decide +kernel
theorem ddX4_restore_23 : decode cX4_restore 23 = .ok (.getfield 37, 3) := by decide +kernel
theorem ddX4_restore_26 : decode cX4_restore 26 = .ok (.invokevirtual 353, 3) := by decide +kernel
theorem ddX4_restore_29 : decode cX4_restore 29 = .ok (.aload_n 0, 1) := by decide +kernel
theorem ddX4_restore_30 : decode cX4_restore 30 = .ok (.getfield 19, 3) := by decide +kernel
theorem ddX4_restore_33 : decode cX4_restore 33 = .ok (.invokevirtual 356, 3) := by decide +kernel
theorem ddX4_restore_36 : decode cX4_restore 36 = .ok (.aload_n 0, 1) := by decide +kernel
theorem ddX4_restore_37 : decode cX4_restore 37 = .ok (.getfield 10, 3) := by decide +kernel
theorem ddX4_restore_40 : decode cX4_restore 40 = .ok (.invokevirtual 77, 3) := by decide +kernel
theorem ddX4_restore_43 : decode cX4_restore 43 = .ok (.ireturn, 1) := by decide +kernel
theorem ddX4_throwFor_0 : decode cX4_throwFor 0 = .ok (.iload_n 0, 1) := by decide +kernel
theorem ddX4_throwFor_1 : decode cX4_throwFor 1 = .ok (.tableswitch 89 1 5 #[35, 45, 56, 67, 78], 35) := by decide +kernel
theorem ddX4_throwFor_36 : decode cX4_throwFor 36 = .ok (.new 84, 3) := by decide +kernel
theorem ddX4_throwFor_39 : decode cX4_throwFor 39 = .ok (.dup, 1) := by decide +kernel
theorem ddX4_throwFor_40 : decode cX4_throwFor 40 = .ok (.ldc 120, 2) := by decide +kernel
theorem ddX4_throwFor_42 : decode cX4_throwFor 42 = .ok (.invokespecial 88, 3) := by decide +kernel
theorem ddX4_throwFor_45 : decode cX4_throwFor 45 = .ok (.athrow, 1) := by decide +kernel
theorem ddX4_throwFor_46 : decode cX4_throwFor 46 = .ok (.new 306, 3) := by decide +kernel
theorem ddX4_throwFor_49 : decode cX4_throwFor 49 = .ok (.dup, 1) := by decide +kernel
theorem ddX4_throwFor_50 : decode cX4_throwFor 50 = .ok (.ldc_w 359, 3) := by decide +kernel
theorem ddX4_throwFor_53 : decode cX4_throwFor 53 = .ok (.invokespecial 310, 3) := by decide +kernel
theorem ddX4_throwFor_56 : decode cX4_throwFor 56 = .ok (.athrow, 1) := by decide +kernel
theorem ddX4_throwFor_57 : decode cX4_throwFor 57 = .ok (.new 288, 3) := by decide +kernel
theorem ddX4_throwFor_60 : decode cX4_throwFor 60 = .ok (.dup, 1) := by decide +kernel
theorem ddX4_throwFor_61 : decode cX4_throwFor 61 = .ok (.ldc_w 361, 3) := by decide +kernel
theorem ddX4_throwFor_64 : decode cX4_throwFor 64 = .ok (.invokespecial 292, 3) := by decide +kernel
theorem ddX4_throwFor_67 : decode cX4_throwFor 67 = .ok (.athrow, 1) := by decide +kernel
theorem ddX4_throwFor_68 : decode cX4_throwFor 68 = .ok (.new 147, 3) := by decide +kernel
theorem ddX4_throwFor_71 : decode cX4_throwFor 71 = .ok (.dup, 1) := by decide +kernel
theorem ddX4_throwFor_72 : decode cX4_throwFor 72 = .ok (.ldc_w 363, 3) := by decide +kernel
theorem ddX4_throwFor_75 : decode cX4_throwFor 75 = .ok (.invokespecial 151, 3) := by decide +kernel
theorem ddX4_throwFor_78 : decode cX4_throwFor 78 = .ok (.athrow, 1) := by decide +kernel
theorem ddX4_throwFor_79 : decode cX4_throwFor 79 = .ok (.new 323, 3) := by decide +kernel
theorem ddX4_throwFor_82 : decode cX4_throwFor 82 = .ok (.dup, 1) := by decide +kernel
theorem ddX4_throwFor_83 : decode cX4_throwFor 83 = .ok (.ldc_w 365, 3) := by decide +kernel
theorem ddX4_throwFor_86 : decode cX4_throwFor 86 = .ok (.invokespecial 327, 3) := by decide +kernel
theorem ddX4_throwFor_89 : decode cX4_throwFor 89 = .ok (.athrow, 1) := by decide +kernel
theorem ddX4_throwFor_90 : decode cX4_throwFor 90 = .ok (.return_, 1) := by decide +kernel
theorem ddX4_throwUnlessGuard_0 : decode cX4_throwUnlessGuard 0 = .ok (.aload_n 0, 1) := by decide +kernel
theorem ddX4_throwUnlessGuard_1 : decode cX4_throwUnlessGuard 1 = .ok (.getfield 10, 3) := by decide +kernel
theorem ddX4_throwUnlessGuard_4 : decode cX4_throwUnlessGuard 4 = .ok (.iload_n 1, 1) := by decide +kernel
theorem ddX4_throwUnlessGuard_5 : decode cX4_throwUnlessGuard 5 = .ok (.invokevirtual 117, 3) := by decide +kernel
theorem ddX4_throwUnlessGuard_8 : decode cX4_throwUnlessGuard 8 = .ok (.ifCond .ne 14, 3) := by decide +kernel
theorem ddX4_throwUnlessGuard_11 : decode cX4_throwUnlessGuard 11 = .ok (.new 84, 3) := by decide +kernel
theorem ddX4_throwUnlessGuard_14 : decode cX4_throwUnlessGuard 14 = .ok (.dup, 1) := by decide +kernel
theorem ddX4_throwUnlessGuard_15 : decode cX4_throwUnlessGuard 15 = .ok (.ldc_w 367, 3) := by decide +kernel
theorem ddX4_throwUnlessGuard_18 : decode cX4_throwUnlessGuard 18 = .ok (.invokespecial 88, 3) := by decide +kernel
theorem ddX4_throwUnlessGuard_21 : decode cX4_throwUnlessGuard 21 = .ok (.athrow, 1) := by decide +kernel
theorem ddX4_throwUnlessGuard_22 : decode cX4_throwUnlessGuard 22 = .ok (.return_, 1) := by decide +kernel
theorem ddX4_throwUnlessSlot_0 : decode cX4_throwUnlessSlot 0 = .ok (.aload_n 0, 1) := by decide +kernel
theorem ddX4_throwUnlessSlot_1 : decode cX4_throwUnlessSlot 1 = .ok (.getfield 10, 3) := by decide +kernel
theorem ddX4_throwUnlessSlot_4 : decode cX4_throwUnlessSlot 4 = .ok (.iload_n 1, 1) := by decide +kernel
theorem ddX4_throwUnlessSlot_5 : decode cX4_throwUnlessSlot 5 = .ok (.invokevirtual 114, 3) := by decide +kernel
theorem ddX4_throwUnlessSlot_8 : decode cX4_throwUnlessSlot 8 = .ok (.ifCond .ne 14, 3) := by decide +kernel
theorem ddX4_throwUnlessSlot_11 : decode cX4_throwUnlessSlot 11 = .ok (.new 84, 3) := by decide +kernel
theorem ddX4_throwUnlessSlot_14 : decode cX4_throwUnlessSlot 14 = .ok (.dup, 1) := by decide +kernel
theorem ddX4_throwUnlessSlot_15 : decode cX4_throwUnlessSlot 15 = .ok (.ldc_w 369, 3) := by decide +kernel
theorem ddX4_throwUnlessSlot_18 : decode cX4_throwUnlessSlot 18 = .ok (.invokespecial 88, 3) := by decide +kernel
theorem ddX4_throwUnlessSlot_21 : decode cX4_throwUnlessSlot 21 = .ok (.athrow, 1) := by decide +kernel
theorem ddX4_throwUnlessSlot_22 : decode cX4_throwUnlessSlot 22 = .ok (.return_, 1) := by decide +kernel
theorem ddX4_throwUnlessGuardAndSlot_0 : decode cX4_throwUnlessGuardAndSlot 0 = .ok (.aload_n 0, 1) := by decide +kernel
theorem ddX4_throwUnlessGuardAndSlot_1 : decode cX4_throwUnlessGuardAndSlot 1 = .ok (.iload_n 1, 1) := by decide +kernel
theorem ddX4_throwUnlessGuardAndSlot_2 : decode cX4_throwUnlessGuardAndSlot 2 = .ok (.invokevirtual 94, 3) := by decide +kernel
theorem ddX4_throwUnlessGuardAndSlot_5 : decode cX4_throwUnlessGuardAndSlot 5 = .ok (.aload_n 0, 1) := by decide +kernel
theorem ddX4_throwUnlessGuardAndSlot_6 : decode cX4_throwUnlessGuardAndSlot 6 = .ok (.iload_n 2, 1) := by decide +kernel
theorem ddX4_throwUnlessGuardAndSlot_7 : decode cX4_throwUnlessGuardAndSlot 7 = .ok (.invokevirtual 164, 3) := by decide +kernel
theorem ddX4_throwUnlessGuardAndSlot_10 : decode cX4_throwUnlessGuardAndSlot 10 = .ok (.return_, 1) := by decide +kernel
theorem ddX4_throwUnlessRefused_0 : decode cX4_throwUnlessRefused 0 = .ok (.aload_n 0, 1) := by decide +kernel
theorem ddX4_throwUnlessRefused_1 : decode cX4_throwUnlessRefused 1 = .ok (.getfield 240, 3) := by decide +kernel
theorem ddX4_throwUnlessRefused_4 : decode cX4_throwUnlessRefused 4 = .ok (.ifCond .ne 14, 3) := by decide +kernel
theorem ddX4_throwUnlessRefused_7 : decode cX4_throwUnlessRefused 7 = .ok (.new 147, 3) := by decide +kernel
theorem ddX4_throwUnlessRefused_10 : decode cX4_throwUnlessRefused 10 = .ok (.dup, 1) := by decide +kernel
theorem ddX4_throwUnlessRefused_11 : decode cX4_throwUnlessRefused 11 = .ok (.ldc_w 371, 3) := by decide +kernel
theorem ddX4_throwUnlessRefused_14 : decode cX4_throwUnlessRefused 14 = .ok (.invokespecial 151, 3) := by decide +kernel
theorem ddX4_throwUnlessRefused_17 : decode cX4_throwUnlessRefused 17 = .ok (.athrow, 1) := by decide +kernel
theorem ddX4_throwUnlessRefused_18 : decode cX4_throwUnlessRefused 18 = .ok (.return_, 1) := by decide +kernel
theorem ddX4_isRank_0 : decode cX4_isRank 0 = .ok (.iload_n 0, 1) := by decide +kernel
theorem ddX4_isRank_1 : decode cX4_isRank 1 = .ok (.iconst 1, 1) := by decide +kernel
theorem ddX4_isRank_2 : decode cX4_isRank 2 = .ok (.if_icmp .lt 13, 3) := by decide +kernel
theorem ddX4_isRank_5 : decode cX4_isRank 5 = .ok (.iload_n 0, 1) := by decide +kernel
theorem ddX4_isRank_6 : decode cX4_isRank 6 = .ok (.bipush 9, 2) := by decide +kernel
theorem ddX4_isRank_8 : decode cX4_isRank 8 = .ok (.if_icmp .gt 7, 3) := by decide +kernel
theorem ddX4_isRank_11 : decode cX4_isRank 11 = .ok (.iconst 1, 1) := by decide +kernel
theorem ddX4_isRank_12 : decode cX4_isRank 12 = .ok (.goto 4, 3) := by decide +kernel
theorem ddX4_isRank_15 : decode cX4_isRank 15 = .ok (.iconst 0, 1) := by decide +kernel
theorem ddX4_isRank_16 : decode cX4_isRank 16 = .ok (.ireturn, 1) := by decide +kernel
theorem ddX4_problemOfGate_0 : decode cX4_problemOfGate 0 = .ok (.iload_n 1, 1) := by decide +kernel
theorem ddX4_problemOfGate_1 : decode cX4_problemOfGate 1 = .ok (.invokestatic 373, 3) := by decide +kernel
theorem ddX4_problemOfGate_4 : decode cX4_problemOfGate 4 = .ok (.ifCond .ne 5, 3) := by decide +kernel
theorem ddX4_problemOfGate_7 : decode cX4_problemOfGate 7 = .ok (.iconst 2, 1) := by decide +kernel
theorem ddX4_problemOfGate_8 : decode cX4_problemOfGate 8 = .ok (.ireturn, 1) := by decide +kernel
theorem ddX4_problemOfGate_9 : decode cX4_problemOfGate 9 = .ok (.aload_n 0, 1) := by decide +kernel
theorem ddX4_problemOfGate_10 : decode cX4_problemOfGate 10 = .ok (.getfield 10, 3) := by decide +kernel
theorem ddX4_problemOfGate_13 : decode cX4_problemOfGate 13 = .ok (.invokevirtual 73, 3) := by decide +kernel
theorem ddX4_problemOfGate_16 : decode cX4_problemOfGate 16 = .ok (.iconst 5, 1) := by decide +kernel
theorem ddX4_problemOfGate_17 : decode cX4_problemOfGate 17 = .ok (.if_icmp .lt 7, 3) := by decide +kernel
theorem ddX4_problemOfGate_20 : decode cX4_problemOfGate 20 = .ok (.iconst 3, 1) := by decide +kernel
theorem ddX4_problemOfGate_21 : decode cX4_problemOfGate 21 = .ok (.goto 4, 3) := by decide +kernel
theorem ddX4_problemOfGate_24 : decode cX4_problemOfGate 24 = .ok (.iconst 0, 1) := by decide +kernel
theorem ddX4_problemOfGate_25 : decode cX4_problemOfGate 25 = .ok (.ireturn, 1) := by decide +kernel
theorem ddX4_problemOfGuard_0 : decode cX4_problemOfGuard 0 = .ok (.iload_n 1, 1) := by decide +kernel
theorem ddX4_problemOfGuard_1 : decode cX4_problemOfGuard 1 = .ok (.invokestatic 373, 3) := by decide +kernel
theorem ddX4_problemOfGuard_4 : decode cX4_problemOfGuard 4 = .ok (.ifCond .ne 5, 3) := by decide +kernel
theorem ddX4_problemOfGuard_7 : decode cX4_problemOfGuard 7 = .ok (.iconst 2, 1) := by decide +kernel
theorem ddX4_problemOfGuard_8 : decode cX4_problemOfGuard 8 = .ok (.ireturn, 1) := by decide +kernel
theorem ddX4_problemOfGuard_9 : decode cX4_problemOfGuard 9 = .ok (.aload_n 0, 1) := by decide +kernel
theorem ddX4_problemOfGuard_10 : decode cX4_problemOfGuard 10 = .ok (.getfield 10, 3) := by decide +kernel
theorem ddX4_problemOfGuard_13 : decode cX4_problemOfGuard 13 = .ok (.invokevirtual 77, 3) := by decide +kernel
theorem ddX4_problemOfGuard_16 : decode cX4_problemOfGuard 16 = .ok (.bipush 10, 2) := by decide +kernel
theorem ddX4_problemOfGuard_18 : decode cX4_problemOfGuard 18 = .ok (.if_icmp .lt 7, 3) := by decide +kernel
theorem ddX4_problemOfGuard_21 : decode cX4_problemOfGuard 21 = .ok (.iconst 3, 1) := by decide +kernel
theorem ddX4_problemOfGuard_22 : decode cX4_problemOfGuard 22 = .ok (.goto 4, 3) := by decide +kernel
theorem ddX4_problemOfGuard_25 : decode cX4_problemOfGuard 25 = .ok (.iconst 0, 1) := by decide +kernel
theorem ddX4_problemOfGuard_26 : decode cX4_problemOfGuard 26 = .ok (.ireturn, 1) := by decide +kernel
theorem ddX4_problemOfDuty_0 : decode cX4_problemOfDuty 0 = .ok (.aload_n 0, 1) := by decide +kernel
theorem ddX4_problemOfDuty_1 : decode cX4_problemOfDuty 1 = .ok (.getfield 10, 3) := by decide +kernel
theorem ddX4_problemOfDuty_4 : decode cX4_problemOfDuty 4 = .ok (.iload_n 1, 1) := by decide +kernel
theorem ddX4_problemOfDuty_5 : decode cX4_problemOfDuty 5 = .ok (.invokevirtual 80, 3) := by decide +kernel
theorem ddX4_problemOfDuty_8 : decode cX4_problemOfDuty 8 = .ok (.ifCond .eq 25, 3) := by decide +kernel
theorem ddX4_problemOfDuty_11 : decode cX4_problemOfDuty 11 = .ok (.aload_n 0, 1) := by decide +kernel
theorem ddX4_problemOfDuty_12 : decode cX4_problemOfDuty 12 = .ok (.getfield 10, 3) := by decide +kernel
theorem ddX4_problemOfDuty_15 : decode cX4_problemOfDuty 15 = .ok (.iload_n 2, 1) := by decide +kernel
theorem ddX4_problemOfDuty_16 : decode cX4_problemOfDuty 16 = .ok (.invokevirtual 114, 3) := by decide +kernel
theorem ddX4_problemOfDuty_19 : decode cX4_problemOfDuty 19 = .ok (.ifCond .eq 14, 3) := by decide +kernel
theorem ddX4_problemOfDuty_22 : decode cX4_problemOfDuty 22 = .ok (.aload_n 0, 1) := by decide +kernel
theorem ddX4_problemOfDuty_23 : decode cX4_problemOfDuty 23 = .ok (.getfield 10, 3) := by decide +kernel
theorem ddX4_problemOfDuty_26 : decode cX4_problemOfDuty 26 = .ok (.iload_n 3, 1) := by decide +kernel
theorem ddX4_problemOfDuty_27 : decode cX4_problemOfDuty 27 = .ok (.invokevirtual 117, 3) := by decide +kernel
theorem ddX4_problemOfDuty_30 : decode cX4_problemOfDuty 30 = .ok (.ifCond .ne 5, 3) := by decide +kernel
theorem ddX4_problemOfDuty_33 : decode cX4_problemOfDuty 33 = .ok (.iconst 1, 1) := by decide +kernel
theorem ddX4_problemOfDuty_34 : decode cX4_problemOfDuty 34 = .ok (.ireturn, 1) := by decide +kernel
theorem ddX4_problemOfDuty_35 : decode cX4_problemOfDuty 35 = .ok (.aload_n 0, 1) := by decide +kernel
theorem ddX4_problemOfDuty_36 : decode cX4_problemOfDuty 36 = .ok (.getfield 10, 3) := by decide +kernel
theorem ddX4_problemOfDuty_39 : decode cX4_problemOfDuty 39 = .ok (.iload_n 2, 1) := by decide +kernel
theorem ddX4_problemOfDuty_40 : decode cX4_problemOfDuty 40 = .ok (.invokevirtual 122, 3) := by decide +kernel
theorem ddX4_problemOfDuty_43 : decode cX4_problemOfDuty 43 = .ok (.ifCond .eq 5, 3) := by decide +kernel
theorem ddX4_problemOfDuty_46 : decode cX4_problemOfDuty 46 = .ok (.iconst 3, 1) := by decide +kernel
theorem ddX4_problemOfDuty_47 : decode cX4_problemOfDuty 47 = .ok (.ireturn, 1) := by decide +kernel
theorem ddX4_problemOfDuty_48 : decode cX4_problemOfDuty 48 = .ok (.aload_n 0, 1) := by decide +kernel
theorem ddX4_problemOfDuty_49 : decode cX4_problemOfDuty 49 = .ok (.iload_n 1, 1) := by decide +kernel
theorem ddX4_problemOfDuty_50 : decode cX4_problemOfDuty 50 = .ok (.iload_n 2, 1) := by decide +kernel
theorem ddX4_problemOfDuty_51 : decode cX4_problemOfDuty 51 = .ok (.iload_n 3, 1) := by decide +kernel
theorem ddX4_problemOfDuty_52 : decode cX4_problemOfDuty 52 = .ok (.invokevirtual 376, 3) := by decide +kernel
theorem ddX4_problemOfDuty_55 : decode cX4_problemOfDuty 55 = .ok (.ifCond .eq 7, 3) := by decide +kernel
theorem ddX4_problemOfDuty_58 : decode cX4_problemOfDuty 58 = .ok (.iconst 5, 1) := by decide +kernel
theorem ddX4_problemOfDuty_59 : decode cX4_problemOfDuty 59 = .ok (.goto 4, 3) := by decide +kernel
theorem ddX4_problemOfDuty_62 : decode cX4_problemOfDuty 62 = .ok (.iconst 0, 1) := by decide +kernel
theorem ddX4_problemOfDuty_63 : decode cX4_problemOfDuty 63 = .ok (.ireturn, 1) := by decide +kernel
theorem ddX4_problemOfFreeing_0 : decode cX4_problemOfFreeing 0 = .ok (.aload_n 0, 1) := by decide +kernel
theorem ddX4_problemOfFreeing_1 : decode cX4_problemOfFreeing 1 = .ok (.getfield 10, 3) := by decide +kernel
theorem ddX4_problemOfFreeing_4 : decode cX4_problemOfFreeing 4 = .ok (.iload_n 1, 1) := by decide +kernel
theorem ddX4_problemOfFreeing_5 : decode cX4_problemOfFreeing 5 = .ok (.invokevirtual 80, 3) := by decide +kernel
theorem ddX4_problemOfFreeing_8 : decode cX4_problemOfFreeing 8 = .ok (.ifCond .eq 14, 3) := by decide +kernel
theorem ddX4_problemOfFreeing_11 : decode cX4_problemOfFreeing 11 = .ok (.aload_n 0, 1) := by decide +kernel
theorem ddX4_problemOfFreeing_12 : decode cX4_problemOfFreeing 12 = .ok (.getfield 10, 3) := by decide +kernel
theorem ddX4_problemOfFreeing_15 : decode cX4_problemOfFreeing 15 = .ok (.iload_n 2, 1) := by decide +kernel
theorem ddX4_problemOfFreeing_16 : decode cX4_problemOfFreeing 16 = .ok (.invokevirtual 114, 3) := by decide +kernel
theorem ddX4_problemOfFreeing_19 : decode cX4_problemOfFreeing 19 = .ok (.ifCond .ne 5, 3) := by decide +kernel
theorem ddX4_problemOfFreeing_22 : decode cX4_problemOfFreeing 22 = .ok (.iconst 1, 1) := by decide +kernel
theorem ddX4_problemOfFreeing_23 : decode cX4_problemOfFreeing 23 = .ok (.ireturn, 1) := by decide +kernel
theorem ddX4_problemOfFreeing_24 : decode cX4_problemOfFreeing 24 = .ok (.aload_n 0, 1) := by decide +kernel
theorem ddX4_problemOfFreeing_25 : decode cX4_problemOfFreeing 25 = .ok (.getfield 10, 3) := by decide +kernel
theorem ddX4_problemOfFreeing_28 : decode cX4_problemOfFreeing 28 = .ok (.iload_n 2, 1) := by decide +kernel
theorem ddX4_problemOfFreeing_29 : decode cX4_problemOfFreeing 29 = .ok (.invokevirtual 122, 3) := by decide +kernel
theorem ddX4_problemOfFreeing_32 : decode cX4_problemOfFreeing 32 = .ok (.ifCond .eq 5, 3) := by decide +kernel
theorem ddX4_problemOfFreeing_35 : decode cX4_problemOfFreeing 35 = .ok (.iconst 3, 1) := by decide +kernel
theorem ddX4_problemOfFreeing_36 : decode cX4_problemOfFreeing 36 = .ok (.ireturn, 1) := by decide +kernel
theorem ddX4_problemOfFreeing_37 : decode cX4_problemOfFreeing 37 = .ok (.aload_n 0, 1) := by decide +kernel
theorem ddX4_problemOfFreeing_38 : decode cX4_problemOfFreeing 38 = .ok (.getfield 10, 3) := by decide +kernel
theorem ddX4_problemOfFreeing_41 : decode cX4_problemOfFreeing 41 = .ok (.iload_n 1, 1) := by decide +kernel
theorem ddX4_problemOfFreeing_42 : decode cX4_problemOfFreeing 42 = .ok (.iload_n 2, 1) := by decide +kernel
theorem ddX4_problemOfFreeing_43 : decode cX4_problemOfFreeing 43 = .ok (.invokevirtual 132, 3) := by decide +kernel
theorem ddX4_problemOfFreeing_46 : decode cX4_problemOfFreeing 46 = .ok (.iconst (-1), 1) := by decide +kernel
theorem ddX4_problemOfFreeing_47 : decode cX4_problemOfFreeing 47 = .ok (.if_icmp .ne 7, 3) := by decide +kernel
theorem ddX4_problemOfFreeing_50 : decode cX4_problemOfFreeing 50 = .ok (.iconst 4, 1) := by decide +kernel
theorem ddX4_problemOfFreeing_51 : decode cX4_problemOfFreeing 51 = .ok (.goto 4, 3) := by decide +kernel
theorem ddX4_problemOfFreeing_54 : decode cX4_problemOfFreeing 54 = .ok (.iconst 0, 1) := by decide +kernel
theorem ddX4_problemOfFreeing_55 : decode cX4_problemOfFreeing 55 = .ok (.ireturn, 1) := by decide +kernel
theorem ddX4_problemOfExchange_0 : decode cX4_problemOfExchange 0 = .ok (.aload_n 0, 1) := by decide +kernel
theorem ddX4_problemOfExchange_1 : decode cX4_problemOfExchange 1 = .ok (.getfield 10, 3) := by decide +kernel
theorem ddX4_problemOfExchange_4 : decode cX4_problemOfExchange 4 = .ok (.iload_n 1, 1) := by decide +kernel
theorem ddX4_problemOfExchange_5 : decode cX4_problemOfExchange 5 = .ok (.invokevirtual 80, 3) := by decide +kernel
theorem ddX4_problemOfExchange_8 : decode cX4_problemOfExchange 8 = .ok (.ifCond .eq 37, 3) := by decide +kernel
theorem ddX4_problemOfExchange_11 : decode cX4_problemOfExchange 11 = .ok (.aload_n 0, 1) := by decide +kernel
theorem ddX4_problemOfExchange_12 : decode cX4_problemOfExchange 12 = .ok (.getfield 10, 3) := by decide +kernel
theorem ddX4_problemOfExchange_15 : decode cX4_problemOfExchange 15 = .ok (.iload_n 2, 1) := by decide +kernel
theorem ddX4_problemOfExchange_16 : decode cX4_problemOfExchange 16 = .ok (.invokevirtual 114, 3) := by decide +kernel
theorem ddX4_problemOfExchange_19 : decode cX4_problemOfExchange 19 = .ok (.ifCond .eq 26, 3) := by decide +kernel
theorem ddX4_problemOfExchange_22 : decode cX4_problemOfExchange 22 = .ok (.aload_n 0, 1) := by decide +kernel
theorem ddX4_problemOfExchange_23 : decode cX4_problemOfExchange 23 = .ok (.getfield 10, 3) := by decide +kernel
theorem ddX4_problemOfExchange_26 : decode cX4_problemOfExchange 26 = .ok (.iload_n 3, 1) := by decide +kernel
theorem ddX4_problemOfExchange_27 : decode cX4_problemOfExchange 27 = .ok (.invokevirtual 80, 3) := by decide +kernel
theorem ddX4_problemOfExchange_30 : decode cX4_problemOfExchange 30 = .ok (.ifCond .eq 15, 3) := by decide +kernel
theorem ddX4_problemOfExchange_33 : decode cX4_problemOfExchange 33 = .ok (.aload_n 0, 1) := by decide +kernel
theorem ddX4_problemOfExchange_34 : decode cX4_problemOfExchange 34 = .ok (.getfield 10, 3) := by decide +kernel
theorem ddX4_problemOfExchange_37 : decode cX4_problemOfExchange 37 = .ok (.iload 4, 2) := by decide +kernel
theorem ddX4_problemOfExchange_39 : decode cX4_problemOfExchange 39 = .ok (.invokevirtual 114, 3) := by decide +kernel
theorem ddX4_problemOfExchange_42 : decode cX4_problemOfExchange 42 = .ok (.ifCond .ne 5, 3) := by decide +kernel
theorem ddX4_problemOfExchange_45 : decode cX4_problemOfExchange 45 = .ok (.iconst 1, 1) := by decide +kernel
theorem ddX4_problemOfExchange_46 : decode cX4_problemOfExchange 46 = .ok (.ireturn, 1) := by decide +kernel
theorem ddX4_problemOfExchange_47 : decode cX4_problemOfExchange 47 = .ok (.iload_n 1, 1) := by decide +kernel
theorem ddX4_problemOfExchange_48 : decode cX4_problemOfExchange 48 = .ok (.iload_n 3, 1) := by decide +kernel
theorem ddX4_problemOfExchange_49 : decode cX4_problemOfExchange 49 = .ok (.if_icmp .ne 11, 3) := by decide +kernel
theorem ddX4_problemOfExchange_52 : decode cX4_problemOfExchange 52 = .ok (.iload_n 2, 1) := by decide +kernel
theorem ddX4_problemOfExchange_53 : decode cX4_problemOfExchange 53 = .ok (.iload 4, 2) := by decide +kernel
theorem ddX4_problemOfExchange_55 : decode cX4_problemOfExchange 55 = .ok (.if_icmp .ne 5, 3) := by decide +kernel
theorem ddX4_problemOfExchange_58 : decode cX4_problemOfExchange 58 = .ok (.iconst 2, 1) := by decide +kernel
theorem ddX4_problemOfExchange_59 : decode cX4_problemOfExchange 59 = .ok (.ireturn, 1) := by decide +kernel
theorem ddX4_problemOfExchange_60 : decode cX4_problemOfExchange 60 = .ok (.aload_n 0, 1) := by decide +kernel
theorem ddX4_problemOfExchange_61 : decode cX4_problemOfExchange 61 = .ok (.getfield 10, 3) := by decide +kernel
theorem ddX4_problemOfExchange_64 : decode cX4_problemOfExchange 64 = .ok (.iload_n 2, 1) := by decide +kernel
theorem ddX4_problemOfExchange_65 : decode cX4_problemOfExchange 65 = .ok (.invokevirtual 122, 3) := by decide +kernel
theorem ddX4_problemOfExchange_68 : decode cX4_problemOfExchange 68 = .ok (.ifCond .ne 15, 3) := by decide +kernel
theorem ddX4_problemOfExchange_71 : decode cX4_problemOfExchange 71 = .ok (.aload_n 0, 1) := by decide +kernel
theorem ddX4_problemOfExchange_72 : decode cX4_problemOfExchange 72 = .ok (.getfield 10, 3) := by decide +kernel
theorem ddX4_problemOfExchange_75 : decode cX4_problemOfExchange 75 = .ok (.iload 4, 2) := by decide +kernel
theorem ddX4_problemOfExchange_77 : decode cX4_problemOfExchange 77 = .ok (.invokevirtual 122, 3) := by decide +kernel
theorem ddX4_problemOfExchange_80 : decode cX4_problemOfExchange 80 = .ok (.ifCond .eq 5, 3) := by decide +kernel
theorem ddX4_problemOfExchange_83 : decode cX4_problemOfExchange 83 = .ok (.iconst 3, 1) := by decide +kernel
theorem ddX4_problemOfExchange_84 : decode cX4_problemOfExchange 84 = .ok (.ireturn, 1) := by decide +kernel
theorem ddX4_problemOfExchange_85 : decode cX4_problemOfExchange 85 = .ok (.aload_n 0, 1) := by decide +kernel
theorem ddX4_problemOfExchange_86 : decode cX4_problemOfExchange 86 = .ok (.getfield 10, 3) := by decide +kernel
theorem ddX4_problemOfExchange_89 : decode cX4_problemOfExchange 89 = .ok (.iload_n 1, 1) := by decide +kernel
theorem ddX4_problemOfExchange_90 : decode cX4_problemOfExchange 90 = .ok (.iload_n 2, 1) := by decide +kernel
theorem ddX4_problemOfExchange_91 : decode cX4_problemOfExchange 91 = .ok (.invokevirtual 132, 3) := by decide +kernel
theorem ddX4_problemOfExchange_94 : decode cX4_problemOfExchange 94 = .ok (.iconst (-1), 1) := by decide +kernel
theorem ddX4_problemOfExchange_95 : decode cX4_problemOfExchange 95 = .ok (.if_icmp .eq 17, 3) := by decide +kernel
theorem ddX4_problemOfExchange_98 : decode cX4_problemOfExchange 98 = .ok (.aload_n 0, 1) := by decide +kernel
theorem ddX4_problemOfExchange_99 : decode cX4_problemOfExchange 99 = .ok (.getfield 10, 3) := by decide +kernel
theorem ddX4_problemOfExchange_102 : decode cX4_problemOfExchange 102 = .ok (.iload_n 3, 1) := by decide +kernel
theorem ddX4_problemOfExchange_103 : decode cX4_problemOfExchange 103 = .ok (.iload 4, 2) := by decide +kernel
theorem ddX4_problemOfExchange_105 : decode cX4_problemOfExchange 105 = .ok (.invokevirtual 132, 3) := by decide +kernel
theorem ddX4_problemOfExchange_108 : decode cX4_problemOfExchange 108 = .ok (.iconst (-1), 1) := by decide +kernel
theorem ddX4_problemOfExchange_109 : decode cX4_problemOfExchange 109 = .ok (.if_icmp .ne 5, 3) := by decide +kernel
theorem ddX4_problemOfExchange_112 : decode cX4_problemOfExchange 112 = .ok (.iconst 4, 1) := by decide +kernel
theorem ddX4_problemOfExchange_113 : decode cX4_problemOfExchange 113 = .ok (.ireturn, 1) := by decide +kernel
theorem ddX4_problemOfExchange_114 : decode cX4_problemOfExchange 114 = .ok (.aload_n 0, 1) := by decide +kernel
theorem ddX4_problemOfExchange_115 : decode cX4_problemOfExchange 115 = .ok (.iload_n 1, 1) := by decide +kernel
theorem ddX4_problemOfExchange_116 : decode cX4_problemOfExchange 116 = .ok (.iload_n 2, 1) := by decide +kernel
theorem ddX4_problemOfExchange_117 : decode cX4_problemOfExchange 117 = .ok (.iload_n 3, 1) := by decide +kernel
theorem ddX4_problemOfExchange_118 : decode cX4_problemOfExchange 118 = .ok (.iload 4, 2) := by decide +kernel
theorem ddX4_problemOfExchange_120 : decode cX4_problemOfExchange 120 = .ok (.invokevirtual 380, 3) := by decide +kernel
theorem ddX4_problemOfExchange_123 : decode cX4_problemOfExchange 123 = .ok (.ifCond .eq 7, 3) := by decide +kernel
theorem ddX4_problemOfExchange_126 : decode cX4_problemOfExchange 126 = .ok (.iconst 5, 1) := by decide +kernel
theorem ddX4_problemOfExchange_127 : decode cX4_problemOfExchange 127 = .ok (.goto 4, 3) := by decide +kernel
theorem ddX4_problemOfExchange_130 : decode cX4_problemOfExchange 130 = .ok (.iconst 0, 1) := by decide +kernel
theorem ddX4_problemOfExchange_131 : decode cX4_problemOfExchange 131 = .ok (.ireturn, 1) := by decide +kernel
theorem ddX4_problemOfFilling_0 : decode cX4_problemOfFilling 0 = .ok (.aload_n 0, 1) := by decide +kernel
theorem ddX4_problemOfFilling_1 : decode cX4_problemOfFilling 1 = .ok (.getfield 10, 3) := by decide +kernel
theorem ddX4_problemOfFilling_4 : decode cX4_problemOfFilling 4 = .ok (.iload_n 1, 1) := by decide +kernel
theorem ddX4_problemOfFilling_5 : decode cX4_problemOfFilling 5 = .ok (.invokevirtual 114, 3) := by decide +kernel
theorem ddX4_problemOfFilling_8 : decode cX4_problemOfFilling 8 = .ok (.ifCond .ne 5, 3) := by decide +kernel
theorem ddX4_problemOfFilling_11 : decode cX4_problemOfFilling 11 = .ok (.iconst 1, 1) := by decide +kernel
theorem ddX4_problemOfFilling_12 : decode cX4_problemOfFilling 12 = .ok (.ireturn, 1) := by decide +kernel
theorem ddX4_problemOfFilling_13 : decode cX4_problemOfFilling 13 = .ok (.aload_n 0, 1) := by decide +kernel
theorem ddX4_problemOfFilling_14 : decode cX4_problemOfFilling 14 = .ok (.getfield 10, 3) := by decide +kernel
theorem ddX4_problemOfFilling_17 : decode cX4_problemOfFilling 17 = .ok (.iload_n 1, 1) := by decide +kernel
theorem ddX4_problemOfFilling_18 : decode cX4_problemOfFilling 18 = .ok (.invokevirtual 122, 3) := by decide +kernel
theorem ddX4_problemOfFilling_21 : decode cX4_problemOfFilling 21 = .ok (.ifCond .eq 7, 3) := by decide +kernel
theorem ddX4_problemOfFilling_24 : decode cX4_problemOfFilling 24 = .ok (.iconst 3, 1) := by decide +kernel
theorem ddX4_problemOfFilling_25 : decode cX4_problemOfFilling 25 = .ok (.goto 4, 3) := by decide +kernel
theorem ddX4_problemOfFilling_28 : decode cX4_problemOfFilling 28 = .ok (.iconst 0, 1) := by decide +kernel
theorem ddX4_problemOfFilling_29 : decode cX4_problemOfFilling 29 = .ok (.ireturn, 1) := by decide +kernel
theorem ddX4_problemOfLeave_0 : decode cX4_problemOfLeave 0 = .ok (.aload_n 0, 1) := by decide +kernel
theorem ddX4_problemOfLeave_1 : decode cX4_problemOfLeave 1 = .ok (.getfield 10, 3) := by decide +kernel
theorem ddX4_problemOfLeave_4 : decode cX4_problemOfLeave 4 = .ok (.iload_n 1, 1) := by decide +kernel
theorem ddX4_problemOfLeave_5 : decode cX4_problemOfLeave 5 = .ok (.invokevirtual 117, 3) := by decide +kernel
theorem ddX4_problemOfLeave_8 : decode cX4_problemOfLeave 8 = .ok (.ifCond .ne 5, 3) := by decide +kernel
theorem ddX4_problemOfLeave_11 : decode cX4_problemOfLeave 11 = .ok (.iconst 1, 1) := by decide +kernel
theorem ddX4_problemOfLeave_12 : decode cX4_problemOfLeave 12 = .ok (.ireturn, 1) := by decide +kernel
theorem ddX4_problemOfLeave_13 : decode cX4_problemOfLeave 13 = .ok (.aload_n 0, 1) := by decide +kernel
theorem ddX4_problemOfLeave_14 : decode cX4_problemOfLeave 14 = .ok (.getfield 10, 3) := by decide +kernel
theorem ddX4_problemOfLeave_17 : decode cX4_problemOfLeave 17 = .ok (.iload_n 2, 1) := by decide +kernel
theorem ddX4_problemOfLeave_18 : decode cX4_problemOfLeave 18 = .ok (.invokevirtual 114, 3) := by decide +kernel
theorem ddX4_problemOfLeave_21 : decode cX4_problemOfLeave 21 = .ok (.ifCond .eq 19, 3) := by decide +kernel
theorem ddX4_problemOfLeave_24 : decode cX4_problemOfLeave 24 = .ok (.aload_n 0, 1) := by decide +kernel
theorem ddX4_problemOfLeave_25 : decode cX4_problemOfLeave 25 = .ok (.getfield 10, 3) := by decide +kernel
theorem ddX4_problemOfLeave_28 : decode cX4_problemOfLeave 28 = .ok (.iload_n 3, 1) := by decide +kernel
theorem ddX4_problemOfLeave_29 : decode cX4_problemOfLeave 29 = .ok (.invokevirtual 114, 3) := by decide +kernel
theorem ddX4_problemOfLeave_32 : decode cX4_problemOfLeave 32 = .ok (.ifCond .eq 8, 3) := by decide +kernel
theorem ddX4_problemOfLeave_35 : decode cX4_problemOfLeave 35 = .ok (.iload_n 2, 1) := by decide +kernel
theorem ddX4_problemOfLeave_36 : decode cX4_problemOfLeave 36 = .ok (.iload_n 3, 1) := by decide +kernel
theorem ddX4_problemOfLeave_37 : decode cX4_problemOfLeave 37 = .ok (.if_icmp .le 5, 3) := by decide +kernel
theorem ddX4_problemOfLeave_40 : decode cX4_problemOfLeave 40 = .ok (.iconst 2, 1) := by decide +kernel
theorem ddX4_problemOfLeave_41 : decode cX4_problemOfLeave 41 = .ok (.ireturn, 1) := by decide +kernel
theorem ddX4_problemOfLeave_42 : decode cX4_problemOfLeave 42 = .ok (.aload_n 0, 1) := by decide +kernel
theorem ddX4_problemOfLeave_43 : decode cX4_problemOfLeave 43 = .ok (.getfield 10, 3) := by decide +kernel
theorem ddX4_problemOfLeave_46 : decode cX4_problemOfLeave 46 = .ok (.iload_n 2, 1) := by decide +kernel
theorem ddX4_problemOfLeave_47 : decode cX4_problemOfLeave 47 = .ok (.invokevirtual 122, 3) := by decide +kernel
theorem ddX4_problemOfLeave_50 : decode cX4_problemOfLeave 50 = .ok (.ifCond .eq 5, 3) := by decide +kernel
theorem ddX4_problemOfLeave_53 : decode cX4_problemOfLeave 53 = .ok (.iconst 3, 1) := by decide +kernel
theorem ddX4_problemOfLeave_54 : decode cX4_problemOfLeave 54 = .ok (.ireturn, 1) := by decide +kernel
theorem ddX4_problemOfLeave_55 : decode cX4_problemOfLeave 55 = .ok (.aload_n 0, 1) := by decide +kernel
theorem ddX4_problemOfLeave_56 : decode cX4_problemOfLeave 56 = .ok (.getfield 10, 3) := by decide +kernel
theorem ddX4_problemOfLeave_59 : decode cX4_problemOfLeave 59 = .ok (.iload_n 1, 1) := by decide +kernel
theorem ddX4_problemOfLeave_60 : decode cX4_problemOfLeave 60 = .ok (.iload_n 2, 1) := by decide +kernel
theorem ddX4_problemOfLeave_61 : decode cX4_problemOfLeave 61 = .ok (.iload_n 3, 1) := by decide +kernel
theorem ddX4_problemOfLeave_62 : decode cX4_problemOfLeave 62 = .ok (.invokevirtual 384, 3) := by decide +kernel
theorem ddX4_problemOfLeave_65 : decode cX4_problemOfLeave 65 = .ok (.istore 4, 2) := by decide +kernel
theorem ddX4_problemOfLeave_67 : decode cX4_problemOfLeave 67 = .ok (.iload 4, 2) := by decide +kernel
theorem ddX4_problemOfLeave_69 : decode cX4_problemOfLeave 69 = .ok (.iconst (-1), 1) := by decide +kernel
theorem ddX4_problemOfLeave_70 : decode cX4_problemOfLeave 70 = .ok (.if_icmp .eq 12, 3) := by decide +kernel
theorem ddX4_problemOfLeave_73 : decode cX4_problemOfLeave 73 = .ok (.aload_n 0, 1) := by decide +kernel
theorem ddX4_problemOfLeave_74 : decode cX4_problemOfLeave 74 = .ok (.iconst 4, 1) := by decide +kernel
theorem ddX4_problemOfLeave_75 : decode cX4_problemOfLeave 75 = .ok (.iload 4, 2) := by decide +kernel
theorem ddX4_problemOfLeave_77 : decode cX4_problemOfLeave 77 = .ok (.invokevirtual 387, 3) := by decide +kernel
theorem ddX4_problemOfLeave_80 : decode cX4_problemOfLeave 80 = .ok (.iconst 5, 1) := by decide +kernel
theorem ddX4_problemOfLeave_81 : decode cX4_problemOfLeave 81 = .ok (.ireturn, 1) := by decide +kernel
theorem ddX4_problemOfLeave_82 : decode cX4_problemOfLeave 82 = .ok (.iconst 0, 1) := by decide +kernel
theorem ddX4_problemOfLeave_83 : decode cX4_problemOfLeave 83 = .ok (.ireturn, 1) := by decide +kernel
theorem ddX4_problemOfFood_0 : decode cX4_problemOfFood 0 = .ok (.iload_n 1, 1) := by decide +kernel
theorem ddX4_problemOfFood_1 : decode cX4_problemOfFood 1 = .ok (.iconst 1, 1) := by decide +kernel
theorem ddX4_problemOfFood_2 : decode cX4_problemOfFood 2 = .ok (.if_icmp .lt 9, 3) := by decide +kernel
theorem ddX4_problemOfFood_5 : decode cX4_problemOfFood 5 = .ok (.iload_n 1, 1) := by decide +kernel
theorem ddX4_problemOfFood_6 : decode cX4_problemOfFood 6 = .ok (.bipush 50, 2) := by decide +kernel
theorem ddX4_problemOfFood_8 : decode cX4_problemOfFood 8 = .ok (.if_icmp .le 5, 3) := by decide +kernel
theorem ddX4_problemOfFood_11 : decode cX4_problemOfFood 11 = .ok (.iconst 2, 1) := by decide +kernel
theorem ddX4_problemOfFood_12 : decode cX4_problemOfFood 12 = .ok (.ireturn, 1) := by decide +kernel
theorem ddX4_problemOfFood_13 : decode cX4_problemOfFood 13 = .ok (.aload_n 0, 1) := by decide +kernel
theorem ddX4_problemOfFood_14 : decode cX4_problemOfFood 14 = .ok (.getfield 10, 3) := by decide +kernel
theorem ddX4_problemOfFood_17 : decode cX4_problemOfFood 17 = .ok (.invokevirtual 223, 3) := by decide +kernel
theorem ddX4_problemOfFood_20 : decode cX4_problemOfFood 20 = .ok (.iload_n 1, 1) := by decide +kernel
theorem ddX4_problemOfFood_21 : decode cX4_problemOfFood 21 = .ok (.iadd, 1) := by decide +kernel
theorem ddX4_problemOfFood_22 : decode cX4_problemOfFood 22 = .ok (.bipush 99, 2) := by decide +kernel
theorem ddX4_problemOfFood_24 : decode cX4_problemOfFood 24 = .ok (.if_icmp .le 7, 3) := by decide +kernel
theorem ddX4_problemOfFood_27 : decode cX4_problemOfFood 27 = .ok (.iconst 3, 1) := by decide +kernel
theorem ddX4_problemOfFood_28 : decode cX4_problemOfFood 28 = .ok (.goto 4, 3) := by decide +kernel
theorem ddX4_problemOfFood_31 : decode cX4_problemOfFood 31 = .ok (.iconst 0, 1) := by decide +kernel
theorem ddX4_problemOfFood_32 : decode cX4_problemOfFood 32 = .ok (.ireturn, 1) := by decide +kernel
theorem ddX4_problemOfPassing_0 : decode cX4_problemOfPassing 0 = .ok (.iload_n 1, 1) := by decide +kernel
theorem ddX4_problemOfPassing_1 : decode cX4_problemOfPassing 1 = .ok (.iconst 1, 1) := by decide +kernel
theorem ddX4_problemOfPassing_2 : decode cX4_problemOfPassing 2 = .ok (.if_icmp .lt 9, 3) := by decide +kernel
theorem ddX4_problemOfPassing_5 : decode cX4_problemOfPassing 5 = .ok (.iload_n 1, 1) := by decide +kernel
theorem ddX4_problemOfPassing_6 : decode cX4_problemOfPassing 6 = .ok (.bipush 28, 2) := by decide +kernel
theorem ddX4_problemOfPassing_8 : decode cX4_problemOfPassing 8 = .ok (.if_icmp .le 5, 3) := by decide +kernel
theorem ddX4_problemOfPassing_11 : decode cX4_problemOfPassing 11 = .ok (.iconst 2, 1) := by decide +kernel
theorem ddX4_problemOfPassing_12 : decode cX4_problemOfPassing 12 = .ok (.ireturn, 1) := by decide +kernel
theorem ddX4_problemOfPassing_13 : decode cX4_problemOfPassing 13 = .ok (.iload_n 1, 1) := by decide +kernel
theorem ddX4_problemOfPassing_14 : decode cX4_problemOfPassing 14 = .ok (.bipush 28, 2) := by decide +kernel
theorem ddX4_problemOfPassing_16 : decode cX4_problemOfPassing 16 = .ok (.aload_n 0, 1) := by decide +kernel
theorem ddX4_problemOfPassing_17 : decode cX4_problemOfPassing 17 = .ok (.getfield 10, 3) := by decide +kernel
theorem ddX4_problemOfPassing_20 : decode cX4_problemOfPassing 20 = .ok (.invokevirtual 173, 3) := by decide +kernel
theorem ddX4_problemOfPassing_23 : decode cX4_problemOfPassing 23 = .ok (.isub, 1) := by decide +kernel
theorem ddX4_problemOfPassing_24 : decode cX4_problemOfPassing 24 = .ok (.if_icmp .le 7, 3) := by decide +kernel
theorem ddX4_problemOfPassing_27 : decode cX4_problemOfPassing 27 = .ok (.iconst 3, 1) := by decide +kernel
theorem ddX4_problemOfPassing_28 : decode cX4_problemOfPassing 28 = .ok (.goto 4, 3) := by decide +kernel
theorem ddX4_problemOfPassing_31 : decode cX4_problemOfPassing 31 = .ok (.iconst 0, 1) := by decide +kernel
theorem ddX4_problemOfPassing_32 : decode cX4_problemOfPassing 32 = .ok (.ireturn, 1) := by decide +kernel
theorem ddX4_isRefused_0 : decode cX4_isRefused 0 = .ok (.aload_n 0, 1) := by decide +kernel
theorem ddX4_isRefused_1 : decode cX4_isRefused 1 = .ok (.getfield 10, 3) := by decide +kernel
theorem ddX4_isRefused_4 : decode cX4_isRefused 4 = .ok (.iload_n 1, 1) := by decide +kernel
theorem ddX4_isRefused_5 : decode cX4_isRefused 5 = .ok (.iload_n 2, 1) := by decide +kernel
theorem ddX4_isRefused_6 : decode cX4_isRefused 6 = .ok (.iload_n 3, 1) := by decide +kernel
theorem ddX4_isRefused_7 : decode cX4_isRefused 7 = .ok (.invokevirtual 125, 3) := by decide +kernel
theorem ddX4_isRefused_10 : decode cX4_isRefused 10 = .ok (.istore 4, 2) := by decide +kernel
theorem ddX4_isRefused_12 : decode cX4_isRefused 12 = .ok (.iload 4, 2) := by decide +kernel
theorem ddX4_isRefused_14 : decode cX4_isRefused 14 = .ok (.ifCond .ne 5, 3) := by decide +kernel
theorem ddX4_isRefused_17 : decode cX4_isRefused 17 = .ok (.iconst 0, 1) := by decide +kernel
theorem ddX4_isRefused_18 : decode cX4_isRefused 18 = .ok (.ireturn, 1) := by decide +kernel
theorem ddX4_isRefused_19 : decode cX4_isRefused 19 = .ok (.aload_n 0, 1) := by decide +kernel
theorem ddX4_isRefused_20 : decode cX4_isRefused 20 = .ok (.iload 4, 2) := by decide +kernel
theorem ddX4_isRefused_22 : decode cX4_isRefused 22 = .ok (.aload_n 0, 1) := by decide +kernel
theorem ddX4_isRefused_23 : decode cX4_isRefused 23 = .ok (.getfield 10, 3) := by decide +kernel
theorem ddX4_isRefused_26 : decode cX4_isRefused 26 = .ok (.iload 4, 2) := by decide +kernel
theorem ddX4_isRefused_28 : decode cX4_isRefused 28 = .ok (.iload_n 1, 1) := by decide +kernel
theorem ddX4_isRefused_29 : decode cX4_isRefused 29 = .ok (.iload_n 2, 1) := by decide +kernel
theorem ddX4_isRefused_30 : decode cX4_isRefused 30 = .ok (.iload_n 3, 1) := by decide +kernel
theorem ddX4_isRefused_31 : decode cX4_isRefused 31 = .ok (.invokevirtual 390, 3) := by decide +kernel
theorem ddX4_isRefused_34 : decode cX4_isRefused 34 = .ok (.invokevirtual 387, 3) := by decide +kernel
theorem ddX4_isRefused_37 : decode cX4_isRefused 37 = .ok (.iconst 1, 1) := by decide +kernel
theorem ddX4_isRefused_38 : decode cX4_isRefused 38 = .ok (.ireturn, 1) := by decide +kernel
theorem ddX4_isExchangeRefused_0 : decode cX4_isExchangeRefused 0 = .ok (.aload_n 0, 1) := by decide +kernel
theorem ddX4_isExchangeRefused_1 : decode cX4_isExchangeRefused 1 = .ok (.getfield 10, 3) := by decide +kernel
theorem ddX4_isExchangeRefused_4 : decode cX4_isExchangeRefused 4 = .ok (.iload_n 1, 1) := by decide +kernel
theorem ddX4_isExchangeRefused_5 : decode cX4_isExchangeRefused 5 = .ok (.iload_n 2, 1) := by decide +kernel
theorem ddX4_isExchangeRefused_6 : decode cX4_isExchangeRefused 6 = .ok (.invokevirtual 132, 3) := by decide +kernel
theorem ddX4_isExchangeRefused_9 : decode cX4_isExchangeRefused 9 = .ok (.istore 5, 2) := by decide +kernel
theorem ddX4_isExchangeRefused_11 : decode cX4_isExchangeRefused 11 = .ok (.aload_n 0, 1) := by decide +kernel
theorem ddX4_isExchangeRefused_12 : decode cX4_isExchangeRefused 12 = .ok (.getfield 10, 3) := by decide +kernel
theorem ddX4_isExchangeRefused_15 : decode cX4_isExchangeRefused 15 = .ok (.iload_n 3, 1) := by decide +kernel
theorem ddX4_isExchangeRefused_16 : decode cX4_isExchangeRefused 16 = .ok (.iload 4, 2) := by decide +kernel
theorem ddX4_isExchangeRefused_18 : decode cX4_isExchangeRefused 18 = .ok (.invokevirtual 132, 3) := by decide +kernel
theorem ddX4_isExchangeRefused_21 : decode cX4_isExchangeRefused 21 = .ok (.istore 6, 2) := by decide +kernel
theorem ddX4_isExchangeRefused_23 : decode cX4_isExchangeRefused 23 = .ok (.aload_n 0, 1) := by decide +kernel
theorem ddX4_isExchangeRefused_24 : decode cX4_isExchangeRefused 24 = .ok (.getfield 10, 3) := by decide +kernel
theorem ddX4_isExchangeRefused_27 : decode cX4_isExchangeRefused 27 = .ok (.iload_n 1, 1) := by decide +kernel
theorem ddX4_isExchangeRefused_28 : decode cX4_isExchangeRefused 28 = .ok (.iload_n 2, 1) := by decide +kernel
theorem ddX4_isExchangeRefused_29 : decode cX4_isExchangeRefused 29 = .ok (.iconst (-1), 1) := by decide +kernel
theorem ddX4_isExchangeRefused_30 : decode cX4_isExchangeRefused 30 = .ok (.invokevirtual 107, 3) := by decide +kernel
theorem ddX4_isExchangeRefused_33 : decode cX4_isExchangeRefused 33 = .ok (.aload_n 0, 1) := by decide +kernel
theorem ddX4_isExchangeRefused_34 : decode cX4_isExchangeRefused 34 = .ok (.getfield 10, 3) := by decide +kernel
theorem ddX4_isExchangeRefused_37 : decode cX4_isExchangeRefused 37 = .ok (.iload_n 3, 1) := by decide +kernel
theorem ddX4_isExchangeRefused_38 : decode cX4_isExchangeRefused 38 = .ok (.iload 4, 2) := by decide +kernel
theorem ddX4_isExchangeRefused_40 : decode cX4_isExchangeRefused 40 = .ok (.iconst (-1), 1) := by decide +kernel
theorem ddX4_isExchangeRefused_41 : decode cX4_isExchangeRefused 41 = .ok (.invokevirtual 107, 3) := by decide +kernel
theorem ddX4_isExchangeRefused_44 : decode cX4_isExchangeRefused 44 = .ok (.aload_n 0, 1) := by decide +kernel
theorem ddX4_isExchangeRefused_45 : decode cX4_isExchangeRefused 45 = .ok (.iload_n 1, 1) := by decide +kernel
theorem ddX4_isExchangeRefused_46 : decode cX4_isExchangeRefused 46 = .ok (.iload_n 2, 1) := by decide +kernel
theorem ddX4_isExchangeRefused_47 : decode cX4_isExchangeRefused 47 = .ok (.iload 6, 2) := by decide +kernel
theorem ddX4_isExchangeRefused_49 : decode cX4_isExchangeRefused 49 = .ok (.invokevirtual 376, 3) := by decide +kernel
theorem ddX4_isExchangeRefused_52 : decode cX4_isExchangeRefused 52 = .ok (.istore 7, 2) := by decide +kernel
theorem ddX4_isExchangeRefused_54 : decode cX4_isExchangeRefused 54 = .ok (.iload 7, 2) := by decide +kernel
theorem ddX4_isExchangeRefused_56 : decode cX4_isExchangeRefused 56 = .ok (.ifCond .ne 25, 3) := by decide +kernel
theorem ddX4_isExchangeRefused_59 : decode cX4_isExchangeRefused 59 = .ok (.aload_n 0, 1) := by decide +kernel
theorem ddX4_isExchangeRefused_60 : decode cX4_isExchangeRefused 60 = .ok (.getfield 10, 3) := by decide +kernel
theorem ddX4_isExchangeRefused_63 : decode cX4_isExchangeRefused 63 = .ok (.iload_n 1, 1) := by decide +kernel
theorem ddX4_isExchangeRefused_64 : decode cX4_isExchangeRefused 64 = .ok (.iload_n 2, 1) := by decide +kernel
theorem ddX4_isExchangeRefused_65 : decode cX4_isExchangeRefused 65 = .ok (.iload 6, 2) := by decide +kernel
theorem ddX4_isExchangeRefused_67 : decode cX4_isExchangeRefused 67 = .ok (.invokevirtual 107, 3) := by decide +kernel
theorem ddX4_isExchangeRefused_70 : decode cX4_isExchangeRefused 70 = .ok (.aload_n 0, 1) := by decide +kernel
theorem ddX4_isExchangeRefused_71 : decode cX4_isExchangeRefused 71 = .ok (.iload_n 3, 1) := by decide +kernel
theorem ddX4_isExchangeRefused_72 : decode cX4_isExchangeRefused 72 = .ok (.iload 4, 2) := by decide +kernel
theorem ddX4_isExchangeRefused_74 : decode cX4_isExchangeRefused 74 = .ok (.iload 5, 2) := by decide +kernel
theorem ddX4_isExchangeRefused_76 : decode cX4_isExchangeRefused 76 = .ok (.invokevirtual 376, 3) := by decide +kernel
theorem ddX4_isExchangeRefused_79 : decode cX4_isExchangeRefused 79 = .ok (.istore 7, 2) := by decide +kernel
theorem ddX4_isExchangeRefused_81 : decode cX4_isExchangeRefused 81 = .ok (.aload_n 0, 1) := by decide +kernel
theorem ddX4_isExchangeRefused_82 : decode cX4_isExchangeRefused 82 = .ok (.getfield 10, 3) := by decide +kernel
theorem ddX4_isExchangeRefused_85 : decode cX4_isExchangeRefused 85 = .ok (.iload_n 1, 1) := by decide +kernel
theorem ddX4_isExchangeRefused_86 : decode cX4_isExchangeRefused 86 = .ok (.iload_n 2, 1) := by decide +kernel
theorem ddX4_isExchangeRefused_87 : decode cX4_isExchangeRefused 87 = .ok (.iload 5, 2) := by decide +kernel
theorem ddX4_isExchangeRefused_89 : decode cX4_isExchangeRefused 89 = .ok (.invokevirtual 107, 3) := by decide +kernel
theorem ddX4_isExchangeRefused_92 : decode cX4_isExchangeRefused 92 = .ok (.aload_n 0, 1) := by decide +kernel
theorem ddX4_isExchangeRefused_93 : decode cX4_isExchangeRefused 93 = .ok (.getfield 10, 3) := by decide +kernel
theorem ddX4_isExchangeRefused_96 : decode cX4_isExchangeRefused 96 = .ok (.iload_n 3, 1) := by decide +kernel
theorem ddX4_isExchangeRefused_97 : decode cX4_isExchangeRefused 97 = .ok (.iload 4, 2) := by decide +kernel
theorem ddX4_isExchangeRefused_99 : decode cX4_isExchangeRefused 99 = .ok (.iload 6, 2) := by decide +kernel
theorem ddX4_isExchangeRefused_101 : decode cX4_isExchangeRefused 101 = .ok (.invokevirtual 107, 3) := by decide +kernel
theorem ddX4_isExchangeRefused_104 : decode cX4_isExchangeRefused 104 = .ok (.iload 7, 2) := by decide +kernel
theorem ddX4_isExchangeRefused_106 : decode cX4_isExchangeRefused 106 = .ok (.ireturn, 1) := by decide +kernel
theorem ddX4_keepRefusal_0 : decode cX4_keepRefusal 0 = .ok (.aload_n 0, 1) := by decide +kernel
theorem ddX4_keepRefusal_1 : decode cX4_keepRefusal 1 = .ok (.iload_n 1, 1) := by decide +kernel
theorem ddX4_keepRefusal_2 : decode cX4_keepRefusal 2 = .ok (.putfield 240, 3) := by decide +kernel
theorem ddX4_keepRefusal_5 : decode cX4_keepRefusal 5 = .ok (.aload_n 0, 1) := by decide +kernel
theorem ddX4_keepRefusal_6 : decode cX4_keepRefusal 6 = .ok (.iload_n 2, 1) := by decide +kernel
theorem ddX4_keepRefusal_7 : decode cX4_keepRefusal 7 = .ok (.putfield 243, 3) := by decide +kernel
theorem ddX4_keepRefusal_10 : decode cX4_keepRefusal 10 = .ok (.return_, 1) := by decide +kernel
theorem ddX4_runs_0 : decode cX4_runs 0 = .ok (.aload_n 0, 1) := by decide +kernel
theorem ddX4_runs_1 : decode cX4_runs 1 = .ok (.getfield 33, 3) := by decide +kernel
theorem ddX4_runs_4 : decode cX4_runs 4 = .ok (.iload_n 1, 1) := by decide +kernel
theorem ddX4_runs_5 : decode cX4_runs 5 = .ok (.invokevirtual 393, 3) := by decide +kernel
theorem ddX4_runs_8 : decode cX4_runs 8 = .ok (.istore_n 2, 1) := by decide +kernel
theorem ddX4_runs_9 : decode cX4_runs 9 = .ok (.aload_n 0, 1) := by decide +kernel
theorem ddX4_runs_10 : decode cX4_runs 10 = .ok (.getfield 33, 3) := by decide +kernel
theorem ddX4_runs_13 : decode cX4_runs 13 = .ok (.iload_n 1, 1) := by decide +kernel
theorem ddX4_runs_14 : decode cX4_runs 14 = .ok (.iconst 0, 1) := by decide +kernel
theorem ddX4_runs_15 : decode cX4_runs 15 = .ok (.invokevirtual 396, 3) := by decide +kernel
theorem ddX4_runs_18 : decode cX4_runs 18 = .ok (.istore_n 3, 1) := by decide +kernel
theorem ddX4_runs_19 : decode cX4_runs 19 = .ok (.aload_n 0, 1) := by decide +kernel
theorem ddX4_runs_20 : decode cX4_runs 20 = .ok (.getfield 33, 3) := by decide +kernel
theorem ddX4_runs_23 : decode cX4_runs 23 = .ok (.iload_n 1, 1) := by decide +kernel
theorem ddX4_runs_24 : decode cX4_runs 24 = .ok (.iconst 1, 1) := by decide +kernel
theorem ddX4_runs_25 : decode cX4_runs 25 = .ok (.invokevirtual 396, 3) := by decide +kernel
theorem ddX4_runs_28 : decode cX4_runs 28 = .ok (.istore 4, 2) := by decide +kernel
theorem ddX4_runs_30 : decode cX4_runs 30 = .ok (.aload_n 0, 1) := by decide +kernel
theorem ddX4_runs_31 : decode cX4_runs 31 = .ok (.getfield 33, 3) := by decide +kernel
theorem ddX4_runs_34 : decode cX4_runs 34 = .ok (.iload_n 1, 1) := by decide +kernel
theorem ddX4_runs_35 : decode cX4_runs 35 = .ok (.iconst 2, 1) := by decide +kernel
theorem ddX4_runs_36 : decode cX4_runs 36 = .ok (.invokevirtual 396, 3) := by decide +kernel
theorem ddX4_runs_39 : decode cX4_runs 39 = .ok (.istore 5, 2) := by decide +kernel
theorem ddX4_runs_41 : decode cX4_runs 41 = .ok (.aload_n 0, 1) := by decide +kernel
theorem ddX4_runs_42 : decode cX4_runs 42 = .ok (.iload_n 2, 1) := by decide +kernel
theorem ddX4_runs_43 : decode cX4_runs 43 = .ok (.iload_n 3, 1) := by decide +kernel
theorem ddX4_runs_44 : decode cX4_runs 44 = .ok (.iload 4, 2) := by decide +kernel
theorem ddX4_runs_46 : decode cX4_runs 46 = .ok (.iload 5, 2) := by decide +kernel
theorem ddX4_runs_48 : decode cX4_runs 48 = .ok (.invokevirtual 399, 3) := by decide +kernel
theorem ddX4_runs_51 : decode cX4_runs 51 = .ok (.ifCond .eq 5, 3) := by decide +kernel
theorem ddX4_runs_54 : decode cX4_runs 54 = .ok (.iconst 0, 1) := by decide +kernel
theorem ddX4_runs_55 : decode cX4_runs 55 = .ok (.ireturn, 1) := by decide +kernel
theorem ddX4_runs_56 : decode cX4_runs 56 = .ok (.aload_n 0, 1) := by decide +kernel
theorem ddX4_runs_57 : decode cX4_runs 57 = .ok (.iload_n 2, 1) := by decide +kernel
theorem ddX4_runs_58 : decode cX4_runs 58 = .ok (.iload_n 3, 1) := by decide +kernel
theorem ddX4_runs_59 : decode cX4_runs 59 = .ok (.iload 4, 2) := by decide +kernel
theorem ddX4_runs_61 : decode cX4_runs 61 = .ok (.iload 5, 2) := by decide +kernel
theorem ddX4_runs_63 : decode cX4_runs 63 = .ok (.invokevirtual 402, 3) := by decide +kernel
theorem ddX4_runs_66 : decode cX4_runs 66 = .ok (.iconst 1, 1) := by decide +kernel
theorem ddX4_runs_67 : decode cX4_runs 67 = .ok (.ireturn, 1) := by decide +kernel
theorem ddX4_problemOfCommand_0 : decode cX4_problemOfCommand 0 = .ok (.iload_n 1, 1) := by decide +kernel
theorem ddX4_problemOfCommand_1 : decode cX4_problemOfCommand 1 = .ok (.tableswitch 102 0 7 #[47, 53, 59, 68, 75, 84, 90, 96], 47) := by decide +kernel
theorem ddX4_problemOfCommand_48 : decode cX4_problemOfCommand 48 = .ok (.aload_n 0, 1) := by decide +kernel
theorem ddX4_problemOfCommand_49 : decode cX4_problemOfCommand 49 = .ok (.iload_n 2, 1) := by decide +kernel
theorem ddX4_problemOfCommand_50 : decode cX4_problemOfCommand 50 = .ok (.invokevirtual 52, 3) := by decide +kernel
theorem ddX4_problemOfCommand_53 : decode cX4_problemOfCommand 53 = .ok (.ireturn, 1) := by decide +kernel
theorem ddX4_problemOfCommand_54 : decode cX4_problemOfCommand 54 = .ok (.aload_n 0, 1) := by decide +kernel
theorem ddX4_problemOfCommand_55 : decode cX4_problemOfCommand 55 = .ok (.iload_n 2, 1) := by decide +kernel
theorem ddX4_problemOfCommand_56 : decode cX4_problemOfCommand 56 = .ok (.invokevirtual 67, 3) := by decide +kernel
theorem ddX4_problemOfCommand_59 : decode cX4_problemOfCommand 59 = .ok (.ireturn, 1) := by decide +kernel
theorem ddX4_problemOfCommand_60 : decode cX4_problemOfCommand 60 = .ok (.aload_n 0, 1) := by decide +kernel
theorem ddX4_problemOfCommand_61 : decode cX4_problemOfCommand 61 = .ok (.iload_n 2, 1) := by decide +kernel
theorem ddX4_problemOfCommand_62 : decode cX4_problemOfCommand 62 = .ok (.iload_n 3, 1) := by decide +kernel
theorem ddX4_problemOfCommand_63 : decode cX4_problemOfCommand 63 = .ok (.iload 4, 2) := by decide +kernel
theorem ddX4_problemOfCommand_65 : decode cX4_problemOfCommand 65 = .ok (.invokevirtual 103, 3) := by decide +kernel
theorem ddX4_problemOfCommand_68 : decode cX4_problemOfCommand 68 = .ok (.ireturn, 1) := by decide +kernel
theorem ddX4_problemOfCommand_69 : decode cX4_problemOfCommand 69 = .ok (.aload_n 0, 1) := by decide +kernel
theorem ddX4_problemOfCommand_70 : decode cX4_problemOfCommand 70 = .ok (.iload_n 2, 1) := by decide +kernel
theorem ddX4_problemOfCommand_71 : decode cX4_problemOfCommand 71 = .ok (.iload_n 3, 1) := by decide +kernel
theorem ddX4_problemOfCommand_72 : decode cX4_problemOfCommand 72 = .ok (.invokevirtual 128, 3) := by decide +kernel
theorem ddX4_problemOfCommand_75 : decode cX4_problemOfCommand 75 = .ok (.ireturn, 1) := by decide +kernel
theorem ddX4_problemOfCommand_76 : decode cX4_problemOfCommand 76 = .ok (.aload_n 0, 1) := by decide +kernel
theorem ddX4_problemOfCommand_77 : decode cX4_problemOfCommand 77 = .ok (.iload_n 2, 1) := by decide +kernel
theorem ddX4_problemOfCommand_78 : decode cX4_problemOfCommand 78 = .ok (.iload_n 3, 1) := by decide +kernel
theorem ddX4_problemOfCommand_79 : decode cX4_problemOfCommand 79 = .ok (.iload 4, 2) := by decide +kernel
theorem ddX4_problemOfCommand_81 : decode cX4_problemOfCommand 81 = .ok (.invokevirtual 199, 3) := by decide +kernel
theorem ddX4_problemOfCommand_84 : decode cX4_problemOfCommand 84 = .ok (.ireturn, 1) := by decide +kernel
theorem ddX4_problemOfCommand_85 : decode cX4_problemOfCommand 85 = .ok (.aload_n 0, 1) := by decide +kernel
theorem ddX4_problemOfCommand_86 : decode cX4_problemOfCommand 86 = .ok (.iload_n 2, 1) := by decide +kernel
theorem ddX4_problemOfCommand_87 : decode cX4_problemOfCommand 87 = .ok (.invokevirtual 139, 3) := by decide +kernel
theorem ddX4_problemOfCommand_90 : decode cX4_problemOfCommand 90 = .ok (.ireturn, 1) := by decide +kernel
theorem ddX4_problemOfCommand_91 : decode cX4_problemOfCommand 91 = .ok (.aload_n 0, 1) := by decide +kernel
theorem ddX4_problemOfCommand_92 : decode cX4_problemOfCommand 92 = .ok (.iload_n 2, 1) := by decide +kernel
theorem ddX4_problemOfCommand_93 : decode cX4_problemOfCommand 93 = .ok (.invokevirtual 217, 3) := by decide +kernel
theorem ddX4_problemOfCommand_96 : decode cX4_problemOfCommand 96 = .ok (.ireturn, 1) := by decide +kernel
theorem ddX4_problemOfCommand_97 : decode cX4_problemOfCommand 97 = .ok (.aload_n 0, 1) := by decide +kernel
theorem ddX4_problemOfCommand_98 : decode cX4_problemOfCommand 98 = .ok (.iload_n 2, 1) := by decide +kernel
theorem ddX4_problemOfCommand_99 : decode cX4_problemOfCommand 99 = .ok (.invokevirtual 226, 3) := by decide +kernel
theorem ddX4_problemOfCommand_102 : decode cX4_problemOfCommand 102 = .ok (.ireturn, 1) := by decide +kernel
theorem ddX4_problemOfCommand_103 : decode cX4_problemOfCommand 103 = .ok (.iconst 2, 1) := by decide +kernel
theorem ddX4_problemOfCommand_104 : decode cX4_problemOfCommand 104 = .ok (.ireturn, 1) := by decide +kernel
theorem ddX4_carryOut_0 : decode cX4_carryOut 0 = .ok (.iload_n 1, 1) := by decide +kernel
theorem ddX4_carryOut_1 : decode cX4_carryOut 1 = .ok (.tableswitch 148 0 7 #[47, 59, 71, 85, 98, 113, 125, 136], 47) := by decide +kernel
theorem ddX4_carryOut_48 : decode cX4_carryOut 48 = .ok (.aload_n 0, 1) := by decide +kernel
theorem ddX4_carryOut_49 : decode cX4_carryOut 49 = .ok (.getfield 10, 3) := by decide +kernel
theorem ddX4_carryOut_52 : decode cX4_carryOut 52 = .ok (.iload_n 2, 1) := by decide +kernel
theorem ddX4_carryOut_53 : decode cX4_carryOut 53 = .ok (.invokevirtual 64, 3) := by decide +kernel
theorem ddX4_carryOut_56 : decode cX4_carryOut 56 = .ok (.pop, 1) := by decide +kernel
theorem ddX4_carryOut_57 : decode cX4_carryOut 57 = .ok (.goto 92, 3) := by decide +kernel
theorem ddX4_carryOut_60 : decode cX4_carryOut 60 = .ok (.aload_n 0, 1) := by decide +kernel
theorem ddX4_carryOut_61 : decode cX4_carryOut 61 = .ok (.getfield 10, 3) := by decide +kernel
theorem ddX4_carryOut_64 : decode cX4_carryOut 64 = .ok (.iload_n 2, 1) := by decide +kernel
theorem ddX4_carryOut_65 : decode cX4_carryOut 65 = .ok (.invokevirtual 70, 3) := by decide +kernel
theorem ddX4_carryOut_68 : decode cX4_carryOut 68 = .ok (.pop, 1) := by decide +kernel
theorem ddX4_carryOut_69 : decode cX4_carryOut 69 = .ok (.goto 80, 3) := by decide +kernel
theorem ddX4_carryOut_72 : decode cX4_carryOut 72 = .ok (.aload_n 0, 1) := by decide +kernel
theorem ddX4_carryOut_73 : decode cX4_carryOut 73 = .ok (.getfield 10, 3) := by decide +kernel
theorem ddX4_carryOut_76 : decode cX4_carryOut 76 = .ok (.iload_n 2, 1) := by decide +kernel
theorem ddX4_carryOut_77 : decode cX4_carryOut 77 = .ok (.iload_n 3, 1) := by decide +kernel
theorem ddX4_carryOut_78 : decode cX4_carryOut 78 = .ok (.iload 4, 2) := by decide +kernel
theorem ddX4_carryOut_80 : decode cX4_carryOut 80 = .ok (.invokevirtual 107, 3) := by decide +kernel
theorem ddX4_carryOut_83 : decode cX4_carryOut 83 = .ok (.goto 66, 3) := by decide +kernel
theorem ddX4_carryOut_86 : decode cX4_carryOut 86 = .ok (.aload_n 0, 1) := by decide +kernel
theorem ddX4_carryOut_87 : decode cX4_carryOut 87 = .ok (.getfield 10, 3) := by decide +kernel
theorem ddX4_carryOut_90 : decode cX4_carryOut 90 = .ok (.iload_n 2, 1) := by decide +kernel
theorem ddX4_carryOut_91 : decode cX4_carryOut 91 = .ok (.iload_n 3, 1) := by decide +kernel
theorem ddX4_carryOut_92 : decode cX4_carryOut 92 = .ok (.iconst (-1), 1) := by decide +kernel
theorem ddX4_carryOut_93 : decode cX4_carryOut 93 = .ok (.invokevirtual 107, 3) := by decide +kernel
theorem ddX4_carryOut_96 : decode cX4_carryOut 96 = .ok (.goto 53, 3) := by decide +kernel
theorem ddX4_carryOut_99 : decode cX4_carryOut 99 = .ok (.aload_n 0, 1) := by decide +kernel
theorem ddX4_carryOut_100 : decode cX4_carryOut 100 = .ok (.getfield 10, 3) := by decide +kernel
theorem ddX4_carryOut_103 : decode cX4_carryOut 103 = .ok (.iload_n 2, 1) := by decide +kernel
theorem ddX4_carryOut_104 : decode cX4_carryOut 104 = .ok (.iload_n 3, 1) := by decide +kernel
theorem ddX4_carryOut_105 : decode cX4_carryOut 105 = .ok (.iload 4, 2) := by decide +kernel
theorem ddX4_carryOut_107 : decode cX4_carryOut 107 = .ok (.invokevirtual 202, 3) := by decide +kernel
theorem ddX4_carryOut_110 : decode cX4_carryOut 110 = .ok (.pop, 1) := by decide +kernel
theorem ddX4_carryOut_111 : decode cX4_carryOut 111 = .ok (.goto 38, 3) := by decide +kernel
theorem ddX4_carryOut_114 : decode cX4_carryOut 114 = .ok (.aload_n 0, 1) := by decide +kernel
theorem ddX4_carryOut_115 : decode cX4_carryOut 115 = .ok (.getfield 10, 3) := by decide +kernel
theorem ddX4_carryOut_118 : decode cX4_carryOut 118 = .ok (.iload_n 2, 1) := by decide +kernel
theorem ddX4_carryOut_119 : decode cX4_carryOut 119 = .ok (.invokevirtual 142, 3) := by decide +kernel
theorem ddX4_carryOut_122 : decode cX4_carryOut 122 = .ok (.pop, 1) := by decide +kernel
theorem ddX4_carryOut_123 : decode cX4_carryOut 123 = .ok (.goto 26, 3) := by decide +kernel
theorem ddX4_carryOut_126 : decode cX4_carryOut 126 = .ok (.aload_n 0, 1) := by decide +kernel
theorem ddX4_carryOut_127 : decode cX4_carryOut 127 = .ok (.getfield 10, 3) := by decide +kernel
theorem ddX4_carryOut_130 : decode cX4_carryOut 130 = .ok (.iload_n 2, 1) := by decide +kernel
theorem ddX4_carryOut_131 : decode cX4_carryOut 131 = .ok (.invokevirtual 220, 3) := by decide +kernel
theorem ddX4_carryOut_134 : decode cX4_carryOut 134 = .ok (.goto 15, 3) := by decide +kernel
theorem ddX4_carryOut_137 : decode cX4_carryOut 137 = .ok (.aload_n 0, 1) := by decide +kernel
theorem ddX4_carryOut_138 : decode cX4_carryOut 138 = .ok (.getfield 10, 3) := by decide +kernel
theorem ddX4_carryOut_141 : decode cX4_carryOut 141 = .ok (.iload_n 2, 1) := by decide +kernel
theorem ddX4_carryOut_142 : decode cX4_carryOut 142 = .ok (.invokevirtual 229, 3) := by decide +kernel
theorem ddX4_carryOut_145 : decode cX4_carryOut 145 = .ok (.pop, 1) := by decide +kernel
theorem ddX4_carryOut_146 : decode cX4_carryOut 146 = .ok (.goto 3, 3) := by decide +kernel
theorem ddX4_carryOut_149 : decode cX4_carryOut 149 = .ok (.return_, 1) := by decide +kernel
theorem ddX4_put_0 : decode cX4_put 0 = .ok (.aload_n 0, 1) := by decide +kernel
theorem ddX4_put_1 : decode cX4_put 1 = .ok (.getfield 253, 3) := by decide +kernel
theorem ddX4_put_4 : decode cX4_put 4 = .ok (.ifCond .lt 32, 3) := by decide +kernel
theorem ddX4_put_7 : decode cX4_put 7 = .ok (.aload_n 0, 1) := by decide +kernel
theorem ddX4_put_8 : decode cX4_put 8 = .ok (.getfield 253, 3) := by decide +kernel
theorem ddX4_put_11 : decode cX4_put 11 = .ok (.bipush 28, 2) := by decide +kernel
theorem ddX4_put_13 : decode cX4_put 13 = .ok (.if_icmp .ge 23, 3) := by decide +kernel
theorem ddX4_put_16 : decode cX4_put 16 = .ok (.aload_n 0, 1) := by decide +kernel
theorem ddX4_put_17 : decode cX4_put 17 = .ok (.getfield 41, 3) := by decide +kernel
theorem ddX4_put_20 : decode cX4_put 20 = .ok (.aload_n 0, 1) := by decide +kernel
theorem ddX4_put_21 : decode cX4_put 21 = .ok (.getfield 253, 3) := by decide +kernel
theorem ddX4_put_24 : decode cX4_put 24 = .ok (.iload_n 1, 1) := by decide +kernel
theorem ddX4_put_25 : decode cX4_put 25 = .ok (.castore, 1) := by decide +kernel
theorem ddX4_put_26 : decode cX4_put 26 = .ok (.aload_n 0, 1) := by decide +kernel
theorem ddX4_put_27 : decode cX4_put 27 = .ok (.dup, 1) := by decide +kernel
theorem ddX4_put_28 : decode cX4_put 28 = .ok (.getfield 253, 3) := by decide +kernel
theorem ddX4_put_31 : decode cX4_put 31 = .ok (.iconst 1, 1) := by decide +kernel
theorem ddX4_put_32 : decode cX4_put 32 = .ok (.iadd, 1) := by decide +kernel
theorem ddX4_put_33 : decode cX4_put 33 = .ok (.putfield 253, 3) := by decide +kernel
theorem ddX4_put_36 : decode cX4_put 36 = .ok (.return_, 1) := by decide +kernel
theorem ddX4_putNumber_0 : decode cX4_putNumber 0 = .ok (.iload_n 1, 1) := by decide +kernel
theorem ddX4_putNumber_1 : decode cX4_putNumber 1 = .ok (.bipush 10, 2) := by decide +kernel
theorem ddX4_putNumber_3 : decode cX4_putNumber 3 = .ok (.if_icmp .lt 15, 3) := by decide +kernel
theorem ddX4_putNumber_6 : decode cX4_putNumber 6 = .ok (.aload_n 0, 1) := by decide +kernel
theorem ddX4_putNumber_7 : decode cX4_putNumber 7 = .ok (.bipush 48, 2) := by decide +kernel
theorem ddX4_putNumber_9 : decode cX4_putNumber 9 = .ok (.iload_n 1, 1) := by decide +kernel
theorem ddX4_putNumber_10 : decode cX4_putNumber 10 = .ok (.bipush 10, 2) := by decide +kernel
theorem ddX4_putNumber_12 : decode cX4_putNumber 12 = .ok (.idiv, 1) := by decide +kernel
theorem ddX4_putNumber_13 : decode cX4_putNumber 13 = .ok (.iadd, 1) := by decide +kernel
theorem ddX4_putNumber_14 : decode cX4_putNumber 14 = .ok (.i2c, 1) := by decide +kernel
theorem ddX4_putNumber_15 : decode cX4_putNumber 15 = .ok (.invokevirtual 256, 3) := by decide +kernel
theorem ddX4_putNumber_18 : decode cX4_putNumber 18 = .ok (.aload_n 0, 1) := by decide +kernel
theorem ddX4_putNumber_19 : decode cX4_putNumber 19 = .ok (.bipush 48, 2) := by decide +kernel
theorem ddX4_putNumber_21 : decode cX4_putNumber 21 = .ok (.iload_n 1, 1) := by decide +kernel
theorem ddX4_putNumber_22 : decode cX4_putNumber 22 = .ok (.bipush 10, 2) := by decide +kernel
theorem ddX4_putNumber_24 : decode cX4_putNumber 24 = .ok (.irem, 1) := by decide +kernel
theorem ddX4_putNumber_25 : decode cX4_putNumber 25 = .ok (.iadd, 1) := by decide +kernel
theorem ddX4_putNumber_26 : decode cX4_putNumber 26 = .ok (.i2c, 1) := by decide +kernel
theorem ddX4_putNumber_27 : decode cX4_putNumber 27 = .ok (.invokevirtual 256, 3) := by decide +kernel
theorem ddX4_putNumber_30 : decode cX4_putNumber 30 = .ok (.return_, 1) := by decide +kernel
theorem ddX4_putNumberOr_0 : decode cX4_putNumberOr 0 = .ok (.iload_n 1, 1) := by decide +kernel
theorem ddX4_putNumberOr_1 : decode cX4_putNumberOr 1 = .ok (.iconst (-1), 1) := by decide +kernel
theorem ddX4_putNumberOr_2 : decode cX4_putNumberOr 2 = .ok (.if_icmp .ne 11, 3) := by decide +kernel
theorem ddX4_putNumberOr_5 : decode cX4_putNumberOr 5 = .ok (.aload_n 0, 1) := by decide +kernel
theorem ddX4_putNumberOr_6 : decode cX4_putNumberOr 6 = .ok (.iload_n 2, 1) := by decide +kernel
theorem ddX4_putNumberOr_7 : decode cX4_putNumberOr 7 = .ok (.invokevirtual 256, 3) := by decide +kernel
theorem ddX4_putNumberOr_10 : decode cX4_putNumberOr 10 = .ok (.goto 8, 3) := by decide +kernel
theorem ddX4_putNumberOr_13 : decode cX4_putNumberOr 13 = .ok (.aload_n 0, 1) := by decide +kernel
theorem ddX4_putNumberOr_14 : decode cX4_putNumberOr 14 = .ok (.iload_n 1, 1) := by decide +kernel
theorem ddX4_putNumberOr_15 : decode cX4_putNumberOr 15 = .ok (.invokevirtual 260, 3) := by decide +kernel
theorem ddX4_putNumberOr_18 : decode cX4_putNumberOr 18 = .ok (.return_, 1) := by decide +kernel
theorem ddX5_init_0 : decode cX5_init 0 = .ok (.aload_n 0, 1) := by decide +kernel
theorem ddX5_init_1 : decode cX5_init 1 = .ok (.invokespecial 1, 3) := by decide +kernel
theorem ddX5_init_4 : decode cX5_init 4 = .ok (.aload_n 0, 1) := by decide +kernel
theorem ddX5_init_5 : decode cX5_init 5 = .ok (.sipush 179, 3) := by decide +kernel
theorem ddX5_init_8 : decode cX5_init 8 = .ok (.newarray .int, 2) := by decide +kernel
theorem ddX5_init_10 : decode cX5_init 10 = .ok (.putfield 7, 3) := by decide +kernel
theorem ddX5_init_13 : decode cX5_init 13 = .ok (.aload_n 0, 1) := by decide +kernel
theorem ddX5_init_14 : decode cX5_init 14 = .ok (.sipush 1432, 3) := by decide +kernel
theorem ddX5_init_17 : decode cX5_init 17 = .ok (.newarray .int, 2) := by decide +kernel
theorem ddX5_init_19 : decode cX5_init 19 = .ok (.putfield 13, 3) := by decide +kernel
theorem ddX5_init_22 : decode cX5_init 22 = .ok (.aload_n 0, 1) := by decide +kernel
theorem ddX5_init_23 : decode cX5_init 23 = .ok (.sipush 179, 3) := by decide +kernel
theorem ddX5_init_26 : decode cX5_init 26 = .ok (.newarray .int, 2) := by decide +kernel
theorem ddX5_init_28 : decode cX5_init 28 = .ok (.putfield 16, 3) := by decide +kernel
theorem ddX5_init_31 : decode cX5_init 31 = .ok (.aload_n 0, 1) := by decide +kernel
theorem ddX5_init_32 : decode cX5_init 32 = .ok (.sipush 179, 3) := by decide +kernel
theorem ddX5_init_35 : decode cX5_init 35 = .ok (.newarray .int, 2) := by decide +kernel
theorem ddX5_init_37 : decode cX5_init 37 = .ok (.putfield 19, 3) := by decide +kernel
theorem ddX5_init_40 : decode cX5_init 40 = .ok (.aload_n 0, 1) := by decide +kernel
theorem ddX5_init_41 : decode cX5_init 41 = .ok (.bipush 60, 2) := by decide +kernel
theorem ddX5_init_43 : decode cX5_init 43 = .ok (.newarray .int, 2) := by decide +kernel
theorem ddX5_init_45 : decode cX5_init 45 = .ok (.putfield 22, 3) := by decide +kernel
theorem ddX5_init_48 : decode cX5_init 48 = .ok (.aload_n 0, 1) := by decide +kernel
theorem ddX5_init_49 : decode cX5_init 49 = .ok (.iconst (-1), 1) := by decide +kernel
theorem ddX5_init_50 : decode cX5_init 50 = .ok (.putfield 25, 3) := by decide +kernel
theorem ddX5_init_53 : decode cX5_init 53 = .ok (.aload_n 0, 1) := by decide +kernel
theorem ddX5_init_54 : decode cX5_init 54 = .ok (.iconst (-1), 1) := by decide +kernel
theorem ddX5_init_55 : decode cX5_init 55 = .ok (.putfield 29, 3) := by decide +kernel
theorem ddX5_init_58 : decode cX5_init 58 = .ok (.aload_n 0, 1) := by decide +kernel
theorem ddX5_init_59 : decode cX5_init 59 = .ok (.bipush 60, 2) := by decide +kernel
theorem ddX5_init_61 : decode cX5_init 61 = .ok (.newarray .char, 2) := by decide +kernel
theorem ddX5_init_63 : decode cX5_init 63 = .ok (.putfield 32, 3) := by decide +kernel
theorem ddX5_init_66 : decode cX5_init 66 = .ok (.aload_n 0, 1) := by decide +kernel
theorem ddX5_init_67 : decode cX5_init 67 = .ok (.bipush 32, 2) := by decide +kernel
theorem ddX5_init_69 : decode cX5_init 69 = .ok (.newarray .int, 2) := by decide +kernel
theorem ddX5_init_71 : decode cX5_init 71 = .ok (.putfield 36, 3) := by decide +kernel
theorem ddX5_init_74 : decode cX5_init 74 = .ok (.aload_n 0, 1) := by decide +kernel
theorem ddX5_init_75 : decode cX5_init 75 = .ok (.bipush 124, 2) := by decide +kernel
theorem ddX5_init_77 : decode cX5_init 77 = .ok (.newarray .int, 2) := by decide +kernel
theorem ddX5_init_79 : decode cX5_init 79 = .ok (.putfield 39, 3) := by decide +kernel
theorem ddX5_init_82 : decode cX5_init 82 = .ok (.aload_n 0, 1) := by decide +kernel
theorem ddX5_init_83 : decode cX5_init 83 = .ok (.getfield 7, 3) := by decide +kernel
theorem ddX5_init_86 : decode cX5_init 86 = .ok (.iconst 3, 1) := by decide +kernel
theorem ddX5_init_87 : decode cX5_init 87 = .ok (.bipush 20, 2) := by decide +kernel
theorem ddX5_init_89 : decode cX5_init 89 = .ok (.iastore, 1) := by decide +kernel
theorem ddX5_init_90 : decode cX5_init 90 = .ok (.iconst 0, 1) := by decide +kernel
theorem ddX5_init_91 : decode cX5_init 91 = .ok (.istore_n 1, 1) := by decide +kernel
theorem ddX5_init_92 : decode cX5_init 92 = .ok (.iload_n 1, 1) := by decide +kernel
theorem ddX5_init_93 : decode cX5_init 93 = .ok (.sipush 140, 3) := by decide +kernel
theorem ddX5_init_96 : decode cX5_init 96 = .ok (.if_icmp .ge 19, 3) := by decide +kernel
theorem ddX5_init_99 : decode cX5_init 99 = .ok (.aload_n 0, 1) := by decide +kernel
theorem ddX5_init_100 : decode cX5_init 100 = .ok (.getfield 7, 3) := by decide +kernel
theorem ddX5_init_103 : decode cX5_init 103 = .ok (.bipush 39, 2) := by decide +kernel
theorem ddX5_init_105 : decode cX5_init 105 = .ok (.iload_n 1, 1) := by decide +kernel
theorem ddX5_init_106 : decode cX5_init 106 = .ok (.iadd, 1) := by decide +kernel
theorem ddX5_init_107 : decode cX5_init 107 = .ok (.iconst (-1), 1) := by decide +kernel
theorem ddX5_init_108 : decode cX5_init 108 = .ok (.iastore, 1) := by decide +kernel
theorem ddX5_init_109 : decode cX5_init 109 = .ok (.iinc 1 1, 3) := by decide +kernel
theorem ddX5_init_112 : decode cX5_init 112 = .ok (.goto (-20), 3) := by decide +kernel
theorem ddX5_init_115 : decode cX5_init 115 = .ok (.return_, 1) := by decide +kernel
theorem ddX5_thrown_0 : decode cX5_thrown 0 = .ok (.aload_n 0, 1) := by decide +kernel
theorem ddX5_thrown_1 : decode cX5_thrown 1 = .ok (.getfield 42, 3) := by decide +kernel
theorem ddX5_thrown_4 : decode cX5_thrown 4 = .ok (.ireturn, 1) := by decide +kernel
theorem ddX5_fails_0 : decode cX5_fails 0 = .ok (.aload_n 0, 1) := by decide +kernel
theorem ddX5_fails_1 : decode cX5_fails 1 = .ok (.iload_n 1, 1) := by decide +kernel
theorem ddX5_fails_2 : decode cX5_fails 2 = .ok (.putfield 42, 3) := by decide +kernel
theorem ddX5_fails_5 : decode cX5_fails 5 = .ok (.iload_n 1, 1) := by decide +kernel
theorem ddX5_fails_6 : decode cX5_fails 6 = .ok (.ifCond .le 7, 3) := by decide +kernel
theorem ddX5_fails_9 : decode cX5_fails 9 = .ok (.iconst 1, 1) := by decide +kernel
theorem ddX5_fails_10 : decode cX5_fails 10 = .ok (.goto 4, 3) := by decide +kernel
theorem ddX5_fails_13 : decode cX5_fails 13 = .ok (.iconst 0, 1) := by decide +kernel
theorem ddX5_fails_14 : decode cX5_fails 14 = .ok (.ireturn, 1) := by decide +kernel
theorem ddX5_in_0 : decode cX5_in 0 = .ok (.iload_n 0, 1) := by decide +kernel
theorem ddX5_in_1 : decode cX5_in 1 = .ok (.iload_n 1, 1) := by decide +kernel
theorem ddX5_in_2 : decode cX5_in 2 = .ok (.if_icmp .lt 12, 3) := by decide +kernel
theorem ddX5_in_5 : decode cX5_in 5 = .ok (.iload_n 0, 1) := by decide +kernel
theorem ddX5_in_6 : decode cX5_in 6 = .ok (.iload_n 2, 1) := by decide +kernel
theorem ddX5_in_7 : decode cX5_in 7 = .ok (.if_icmp .gt 7, 3) := by decide +kernel
theorem ddX5_in_10 : decode cX5_in 10 = .ok (.iconst 1, 1) := by decide +kernel
theorem ddX5_in_11 : decode cX5_in 11 = .ok (.goto 4, 3) := by decide +kernel
theorem ddX5_in_14 : decode cX5_in 14 = .ok (.iconst 0, 1) := by decide +kernel
theorem ddX5_in_15 : decode cX5_in 15 = .ok (.ireturn, 1) := by decide +kernel
theorem ddX5_copies_0 : decode cX5_copies 0 = .ok (.iconst 0, 1) := by decide +kernel
theorem ddX5_copies_1 : decode cX5_copies 1 = .ok (.istore 4, 2) := by decide +kernel
theorem ddX5_copies_3 : decode cX5_copies 3 = .ok (.iload 4, 2) := by decide +kernel
theorem ddX5_copies_5 : decode cX5_copies 5 = .ok (.sipush 179, 3) := by decide +kernel
theorem ddX5_copies_8 : decode cX5_copies 8 = .ok (.if_icmp .ge 21, 3) := by decide +kernel
theorem ddX5_copies_11 : decode cX5_copies 11 = .ok (.aload_n 2, 1) := by decide +kernel
theorem ddX5_copies_12 : decode cX5_copies 12 = .ok (.iload_n 3, 1) := by decide +kernel
theorem ddX5_copies_13 : decode cX5_copies 13 = .ok (.iload 4, 2) := by decide +kernel
theorem ddX5_copies_15 : decode cX5_copies 15 = .ok (.iadd, 1) := by decide +kernel
theorem ddX5_copies_16 : decode cX5_copies 16 = .ok (.aload_n 0, 1) := by decide +kernel
theorem ddX5_copies_17 : decode cX5_copies 17 = .ok (.iload_n 1, 1) := by decide +kernel
theorem ddX5_copies_18 : decode cX5_copies 18 = .ok (.iload 4, 2) := by decide +kernel
theorem ddX5_copies_20 : decode cX5_copies 20 = .ok (.iadd, 1) := by decide +kernel
theorem ddX5_copies_21 : decode cX5_copies 21 = .ok (.iaload, 1) := by decide +kernel
theorem ddX5_copies_22 : decode cX5_copies 22 = .ok (.iastore, 1) := by decide +kernel
theorem ddX5_copies_23 : decode cX5_copies 23 = .ok (.iinc 4 1, 3) := by decide +kernel
theorem ddX5_copies_26 : decode cX5_copies 26 = .ok (.goto (-23), 3) := by decide +kernel
theorem ddX5_copies_29 : decode cX5_copies 29 = .ok (.return_, 1) := by decide +kernel
theorem ddX5_keeps_0 : decode cX5_keeps 0 = .ok (.aload_n 0, 1) := by decide +kernel
theorem ddX5_keeps_1 : decode cX5_keeps 1 = .ok (.iconst 0, 1) := by decide +kernel
theorem ddX5_keeps_2 : decode cX5_keeps 2 = .ok (.putfield 42, 3) := by decide +kernel
theorem ddX5_keeps_5 : decode cX5_keeps 5 = .ok (.aload_n 0, 1) := by decide +kernel
theorem ddX5_keeps_6 : decode cX5_keeps 6 = .ok (.getfield 45, 3) := by decide +kernel
theorem ddX5_keeps_9 : decode cX5_keeps 9 = .ok (.ifCond .eq 4, 3) := by decide +kernel
theorem ddX5_keeps_12 : decode cX5_keeps 12 = .ok (.return_, 1) := by decide +kernel
theorem ddX5_keeps_13 : decode cX5_keeps 13 = .ok (.aload_n 0, 1) := by decide +kernel
theorem ddX5_keeps_14 : decode cX5_keeps 14 = .ok (.getfield 49, 3) := by decide +kernel
theorem ddX5_keeps_17 : decode cX5_keeps 17 = .ok (.bipush 8, 2) := by decide +kernel
theorem ddX5_keeps_19 : decode cX5_keeps 19 = .ok (.if_icmp .ne 44, 3) := by decide +kernel
theorem ddX5_keeps_22 : decode cX5_keeps 22 = .ok (.iconst 0, 1) := by decide +kernel
theorem ddX5_keeps_23 : decode cX5_keeps 23 = .ok (.istore_n 2, 1) := by decide +kernel
theorem ddX5_keeps_24 : decode cX5_keeps 24 = .ok (.iload_n 2, 1) := by decide +kernel
theorem ddX5_keeps_25 : decode cX5_keeps 25 = .ok (.sipush 1253, 3) := by decide +kernel
theorem ddX5_keeps_28 : decode cX5_keeps 28 = .ok (.if_icmp .ge 25, 3) := by decide +kernel
theorem ddX5_keeps_31 : decode cX5_keeps 31 = .ok (.aload_n 0, 1) := by decide +kernel
theorem ddX5_keeps_32 : decode cX5_keeps 32 = .ok (.getfield 13, 3) := by decide +kernel
theorem ddX5_keeps_35 : decode cX5_keeps 35 = .ok (.iload_n 2, 1) := by decide +kernel
theorem ddX5_keeps_36 : decode cX5_keeps 36 = .ok (.aload_n 0, 1) := by decide +kernel
theorem ddX5_keeps_37 : decode cX5_keeps 37 = .ok (.getfield 13, 3) := by decide +kernel
theorem ddX5_keeps_40 : decode cX5_keeps 40 = .ok (.iload_n 2, 1) := by decide +kernel
theorem ddX5_keeps_41 : decode cX5_keeps 41 = .ok (.sipush 179, 3) := by decide +kernel
theorem ddX5_keeps_44 : decode cX5_keeps 44 = .ok (.iadd, 1) := by decide +kernel
theorem ddX5_keeps_45 : decode cX5_keeps 45 = .ok (.iaload, 1) := by decide +kernel
theorem ddX5_keeps_46 : decode cX5_keeps 46 = .ok (.iastore, 1) := by decide +kernel
theorem ddX5_keeps_47 : decode cX5_keeps 47 = .ok (.iinc 2 1, 3) := by decide +kernel
theorem ddX5_keeps_50 : decode cX5_keeps 50 = .ok (.goto (-26), 3) := by decide +kernel
theorem ddX5_keeps_53 : decode cX5_keeps 53 = .ok (.aload_n 0, 1) := by decide +kernel
theorem ddX5_keeps_54 : decode cX5_keeps 54 = .ok (.dup, 1) := by decide +kernel
theorem ddX5_keeps_55 : decode cX5_keeps 55 = .ok (.getfield 49, 3) := by decide +kernel
theorem ddX5_keeps_58 : decode cX5_keeps 58 = .ok (.iconst 1, 1) := by decide +kernel
theorem ddX5_keeps_59 : decode cX5_keeps 59 = .ok (.isub, 1) := by decide +kernel
theorem ddX5_keeps_60 : decode cX5_keeps 60 = .ok (.putfield 49, 3) := by decide +kernel
theorem ddX5_keeps_63 : decode cX5_keeps 63 = .ok (.aload_n 1, 1) := by decide +kernel
theorem ddX5_keeps_64 : decode cX5_keeps 64 = .ok (.iconst 0, 1) := by decide +kernel
theorem ddX5_keeps_65 : decode cX5_keeps 65 = .ok (.aload_n 0, 1) := by decide +kernel
theorem ddX5_keeps_66 : decode cX5_keeps 66 = .ok (.getfield 13, 3) := by decide +kernel
theorem ddX5_keeps_69 : decode cX5_keeps 69 = .ok (.sipush 179, 3) := by decide +kernel
theorem ddX5_keeps_72 : decode cX5_keeps 72 = .ok (.aload_n 0, 1) := by decide +kernel
theorem ddX5_keeps_73 : decode cX5_keeps 73 = .ok (.getfield 49, 3) := by decide +kernel
theorem ddX5_keeps_76 : decode cX5_keeps 76 = .ok (.imul, 1) := by decide +kernel
theorem ddX5_keeps_77 : decode cX5_keeps 77 = .ok (.invokestatic 52, 3) := by decide +kernel
theorem ddX5_keeps_80 : decode cX5_keeps 80 = .ok (.aload_n 0, 1) := by decide +kernel
theorem ddX5_keeps_81 : decode cX5_keeps 81 = .ok (.dup, 1) := by decide +kernel
theorem ddX5_keeps_82 : decode cX5_keeps 82 = .ok (.getfield 49, 3) := by decide +kernel
theorem ddX5_keeps_85 : decode cX5_keeps 85 = .ok (.iconst 1, 1) := by decide +kernel
theorem ddX5_keeps_86 : decode cX5_keeps 86 = .ok (.iadd, 1) := by decide +kernel
theorem ddX5_keeps_87 : decode cX5_keeps 87 = .ok (.putfield 49, 3) := by decide +kernel
theorem ddX5_keeps_90 : decode cX5_keeps 90 = .ok (.return_, 1) := by decide +kernel
theorem ddX5_isGate_0 : decode cX5_isGate 0 = .ok (.iload_n 1, 1) := by decide +kernel
theorem ddX5_isGate_1 : decode cX5_isGate 1 = .ok (.iconst 0, 1) := by decide +kernel
theorem ddX5_isGate_2 : decode cX5_isGate 2 = .ok (.aload_n 0, 1) := by decide +kernel
theorem ddX5_isGate_3 : decode cX5_isGate 3 = .ok (.getfield 7, 3) := by decide +kernel
theorem ddX5_isGate_6 : decode cX5_isGate 6 = .ok (.iconst 0, 1) := by decide +kernel
theorem ddX5_isGate_7 : decode cX5_isGate 7 = .ok (.iaload, 1) := by decide +kernel
theorem ddX5_isGate_8 : decode cX5_isGate 8 = .ok (.iconst 1, 1) := by decide +kernel
theorem ddX5_isGate_9 : decode cX5_isGate 9 = .ok (.isub, 1) := by decide +kernel
theorem ddX5_isGate_10 : decode cX5_isGate 10 = .ok (.invokestatic 56, 3) := by decide +kernel
theorem ddX5_isGate_13 : decode cX5_isGate 13 = .ok (.ireturn, 1) := by decide +kernel
theorem ddX5_isGuard_0 : decode cX5_isGuard 0 = .ok (.iload_n 1, 1) := by decide +kernel
theorem ddX5_isGuard_1 : decode cX5_isGuard 1 = .ok (.iconst 0, 1) := by decide +kernel
theorem ddX5_isGuard_2 : decode cX5_isGuard 2 = .ok (.aload_n 0, 1) := by decide +kernel
theorem ddX5_isGuard_3 : decode cX5_isGuard 3 = .ok (.getfield 7, 3) := by decide +kernel
theorem ddX5_isGuard_6 : decode cX5_isGuard 6 = .ok (.iconst 1, 1) := by decide +kernel
theorem ddX5_isGuard_7 : decode cX5_isGuard 7 = .ok (.iaload, 1) := by decide +kernel
theorem ddX5_isGuard_8 : decode cX5_isGuard 8 = .ok (.iconst 1, 1) := by decide +kernel
theorem ddX5_isGuard_9 : decode cX5_isGuard 9 = .ok (.isub, 1) := by decide +kernel
theorem ddX5_isGuard_10 : decode cX5_isGuard 10 = .ok (.invokestatic 56, 3) := by decide +kernel
theorem ddX5_isGuard_13 : decode cX5_isGuard 13 = .ok (.ireturn, 1) := by decide +kernel
theorem ddX5_isSlot_0 : decode cX5_isSlot 0 = .ok (.iload_n 0, 1) := by decide +kernel
theorem ddX5_isSlot_1 : decode cX5_isSlot 1 = .ok (.iconst 0, 1) := by decide +kernel
theorem ddX5_isSlot_2 : decode cX5_isSlot 2 = .ok (.bipush 27, 2) := by decide +kernel
theorem ddX5_isSlot_4 : decode cX5_isSlot 4 = .ok (.invokestatic 56, 3) := by decide +kernel
theorem ddX5_isSlot_7 : decode cX5_isSlot 7 = .ok (.ireturn, 1) := by decide +kernel
theorem ddX5_arePlace_0 : decode cX5_arePlace 0 = .ok (.aload_n 0, 1) := by decide +kernel
theorem ddX5_arePlace_1 : decode cX5_arePlace 1 = .ok (.iload_n 1, 1) := by decide +kernel
theorem ddX5_arePlace_2 : decode cX5_arePlace 2 = .ok (.invokevirtual 60, 3) := by decide +kernel
theorem ddX5_arePlace_5 : decode cX5_arePlace 5 = .ok (.ifCond .eq 14, 3) := by decide +kernel
theorem ddX5_arePlace_8 : decode cX5_arePlace 8 = .ok (.iload_n 2, 1) := by decide +kernel
theorem ddX5_arePlace_9 : decode cX5_arePlace 9 = .ok (.invokestatic 64, 3) := by decide +kernel
theorem ddX5_arePlace_12 : decode cX5_arePlace 12 = .ok (.ifCond .eq 7, 3) := by decide +kernel
theorem ddX5_arePlace_15 : decode cX5_arePlace 15 = .ok (.iconst 1, 1) := by decide +kernel
theorem ddX5_arePlace_16 : decode cX5_arePlace 16 = .ok (.goto 4, 3) := by decide +kernel
theorem ddX5_arePlace_19 : decode cX5_arePlace 19 = .ok (.iconst 0, 1) := by decide +kernel
theorem ddX5_arePlace_20 : decode cX5_arePlace 20 = .ok (.ireturn, 1) := by decide +kernel
theorem ddX5_ranked_0 : decode cX5_ranked 0 = .ok (.aload_n 0, 1) := by decide +kernel
theorem ddX5_ranked_1 : decode cX5_ranked 1 = .ok (.getfield 7, 3) := by decide +kernel
theorem ddX5_ranked_4 : decode cX5_ranked 4 = .ok (.bipush 9, 2) := by decide +kernel
theorem ddX5_ranked_6 : decode cX5_ranked 6 = .ok (.iconst 2, 1) := by decide +kernel
theorem ddX5_ranked_7 : decode cX5_ranked 7 = .ok (.iload_n 1, 1) := by decide +kernel
theorem ddX5_ranked_8 : decode cX5_ranked 8 = .ok (.imul, 1) := by decide +kernel
theorem ddX5_ranked_9 : decode cX5_ranked 9 = .ok (.iadd, 1) := by decide +kernel
theorem ddX5_ranked_10 : decode cX5_ranked 10 = .ok (.iaload, 1) := by decide +kernel
theorem ddX5_ranked_11 : decode cX5_ranked 11 = .ok (.ireturn, 1) := by decide +kernel
theorem ddX5_who_0 : decode cX5_who 0 = .ok (.aload_n 0, 1) := by decide +kernel
theorem ddX5_who_1 : decode cX5_who 1 = .ok (.getfield 7, 3) := by decide +kernel
theorem ddX5_who_4 : decode cX5_who 4 = .ok (.bipush 39, 2) := by decide +kernel
theorem ddX5_who_6 : decode cX5_who 6 = .ok (.bipush 28, 2) := by decide +kernel
theorem ddX5_who_8 : decode cX5_who 8 = .ok (.iload_n 1, 1) := by decide +kernel
theorem ddX5_who_9 : decode cX5_who 9 = .ok (.imul, 1) := by decide +kernel
theorem ddX5_who_10 : decode cX5_who 10 = .ok (.iadd, 1) := by decide +kernel
theorem ddX5_who_11 : decode cX5_who 11 = .ok (.iload_n 2, 1) := by decide +kernel
theorem ddX5_who_12 : decode cX5_who 12 = .ok (.iadd, 1) := by decide +kernel
theorem ddX5_who_13 : decode cX5_who 13 = .ok (.iaload, 1) := by decide +kernel
theorem ddX5_who_14 : decode cX5_who 14 = .ok (.ireturn, 1) := by decide +kernel
theorem ddX5_puts_0 : decode cX5_puts 0 = .ok (.aload_n 0, 1) := by decide +kernel
theorem ddX5_puts_1 : decode cX5_puts 1 = .ok (.getfield 7, 3) := by decide +kernel
theorem ddX5_puts_4 : decode cX5_puts 4 = .ok (.bipush 39, 2) := by decide +kernel
theorem ddX5_puts_6 : decode cX5_puts 6 = .ok (.bipush 28, 2) := by decide +kernel
theorem ddX5_puts_8 : decode cX5_puts 8 = .ok (.iload_n 1, 1) := by decide +kernel
theorem ddX5_puts_9 : decode cX5_puts 9 = .ok (.imul, 1) := by decide +kernel
theorem ddX5_puts_10 : decode cX5_puts 10 = .ok (.iadd, 1) := by decide +kernel
theorem ddX5_puts_11 : decode cX5_puts 11 = .ok (.iload_n 2, 1) := by decide +kernel
theorem ddX5_puts_12 : decode cX5_puts 12 = .ok (.iadd, 1) := by decide +kernel
theorem ddX5_puts_13 : decode cX5_puts 13 = .ok (.iload_n 3, 1) := by decide +kernel
theorem ddX5_puts_14 : decode cX5_puts 14 = .ok (.iastore, 1) := by decide +kernel
theorem ddX5_puts_15 : decode cX5_puts 15 = .ok (.return_, 1) := by decide +kernel
theorem ddX5_where_0 : decode cX5_where 0 = .ok (.iconst 0, 1) := by decide +kernel
theorem ddX5_where_1 : decode cX5_where 1 = .ok (.istore_n 3, 1) := by decide +kernel
theorem ddX5_where_2 : decode cX5_where 2 = .ok (.iload_n 3, 1) := by decide +kernel
theorem ddX5_where_3 : decode cX5_where 3 = .ok (.aload_n 0, 1) := by decide +kernel
theorem ddX5_where_4 : decode cX5_where 4 = .ok (.getfield 7, 3) := by decide +kernel
theorem ddX5_where_7 : decode cX5_where 7 = .ok (.iconst 0, 1) := by decide +kernel
theorem ddX5_where_8 : decode cX5_where 8 = .ok (.iaload, 1) := by decide +kernel
theorem ddX5_where_9 : decode cX5_where 9 = .ok (.if_icmp .ge 28, 3) := by decide +kernel
theorem ddX5_where_12 : decode cX5_where 12 = .ok (.iload_n 2, 1) := by decide +kernel
theorem ddX5_where_13 : decode cX5_where 13 = .ok (.invokestatic 64, 3) := by decide +kernel
theorem ddX5_where_16 : decode cX5_where 16 = .ok (.ifCond .eq 21, 3) := by decide +kernel
theorem ddX5_where_19 : decode cX5_where 19 = .ok (.aload_n 0, 1) := by decide +kernel
theorem ddX5_where_20 : decode cX5_where 20 = .ok (.iload_n 3, 1) := by decide +kernel
theorem ddX5_where_21 : decode cX5_where 21 = .ok (.iload_n 2, 1) := by decide +kernel
theorem ddX5_where_22 : decode cX5_where 22 = .ok (.invokevirtual 67, 3) := by decide +kernel
theorem ddX5_where_25 : decode cX5_where 25 = .ok (.iload_n 1, 1) := by decide +kernel
theorem ddX5_where_26 : decode cX5_where 26 = .ok (.if_icmp .ne 5, 3) := by decide +kernel
theorem ddX5_where_29 : decode cX5_where 29 = .ok (.iload_n 3, 1) := by decide +kernel
theorem ddX5_where_30 : decode cX5_where 30 = .ok (.ireturn, 1) := by decide +kernel
theorem ddX5_where_31 : decode cX5_where 31 = .ok (.iinc 3 1, 3) := by decide +kernel
theorem ddX5_where_34 : decode cX5_where 34 = .ok (.goto (-32), 3) := by decide +kernel
theorem ddX5_where_37 : decode cX5_where 37 = .ok (.iconst (-1), 1) := by decide +kernel
theorem ddX5_where_38 : decode cX5_where 38 = .ok (.ireturn, 1) := by decide +kernel
theorem ddX5_isOff_0 : decode cX5_isOff 0 = .ok (.aload_n 0, 1) := by decide +kernel
theorem ddX5_isOff_1 : decode cX5_isOff 1 = .ok (.getfield 7, 3) := by decide +kernel
theorem ddX5_isOff_4 : decode cX5_isOff 4 = .ok (.bipush 29, 2) := by decide +kernel
theorem ddX5_isOff_6 : decode cX5_isOff 6 = .ok (.iload_n 1, 1) := by decide +kernel
theorem ddX5_isOff_7 : decode cX5_isOff 7 = .ok (.iadd, 1) := by decide +kernel
theorem ddX5_isOff_8 : decode cX5_isOff 8 = .ok (.iaload, 1) := by decide +kernel
theorem ddX5_isOff_9 : decode cX5_isOff 9 = .ok (.iload_n 2, 1) := by decide +kernel
theorem ddX5_isOff_10 : decode cX5_isOff 10 = .ok (.ishr, 1) := by decide +kernel
theorem ddX5_isOff_11 : decode cX5_isOff 11 = .ok (.iconst 1, 1) := by decide +kernel
theorem ddX5_isOff_12 : decode cX5_isOff 12 = .ok (.iand, 1) := by decide +kernel
theorem ddX5_isOff_13 : decode cX5_isOff 13 = .ok (.iconst 1, 1) := by decide +kernel
theorem ddX5_isOff_14 : decode cX5_isOff 14 = .ok (.if_icmp .ne 7, 3) := by decide +kernel
theorem ddX5_isOff_17 : decode cX5_isOff 17 = .ok (.iconst 1, 1) := by decide +kernel
theorem ddX5_isOff_18 : decode cX5_isOff 18 = .ok (.goto 4, 3) := by decide +kernel
theorem ddX5_isOff_21 : decode cX5_isOff 21 = .ok (.iconst 0, 1) := by decide +kernel
theorem ddX5_isOff_22 : decode cX5_isOff 22 = .ok (.ireturn, 1) := by decide +kernel
theorem ddX5_addGate_0 : decode cX5_addGate 0 = .ok (.aload_n 0, 1) := by decide +kernel
theorem ddX5_addGate_1 : decode cX5_addGate 1 = .ok (.iload_n 1, 1) := by decide +kernel
theorem ddX5_addGate_2 : decode cX5_addGate 2 = .ok (.iconst 1, 1) := by decide +kernel
theorem ddX5_addGate_3 : decode cX5_addGate 3 = .ok (.bipush 9, 2) := by decide +kernel
theorem ddX5_addGate_5 : decode cX5_addGate 5 = .ok (.invokestatic 56, 3) := by decide +kernel
theorem ddX5_addGate_8 : decode cX5_addGate 8 = .ok (.ifCond .ne 7, 3) := by decide +kernel
theorem ddX5_addGate_11 : decode cX5_addGate 11 = .ok (.iconst 1, 1) := by decide +kernel
theorem ddX5_addGate_12 : decode cX5_addGate 12 = .ok (.goto 18, 3) := by decide +kernel
theorem ddX5_addGate_15 : decode cX5_addGate 15 = .ok (.aload_n 0, 1) := by decide +kernel
theorem ddX5_addGate_16 : decode cX5_addGate 16 = .ok (.getfield 7, 3) := by decide +kernel
theorem ddX5_addGate_19 : decode cX5_addGate 19 = .ok (.iconst 0, 1) := by decide +kernel
theorem ddX5_addGate_20 : decode cX5_addGate 20 = .ok (.iaload, 1) := by decide +kernel
theorem ddX5_addGate_21 : decode cX5_addGate 21 = .ok (.iconst 5, 1) := by decide +kernel
theorem ddX5_addGate_22 : decode cX5_addGate 22 = .ok (.if_icmp .ne 7, 3) := by decide +kernel
theorem ddX5_addGate_25 : decode cX5_addGate 25 = .ok (.iconst 2, 1) := by decide +kernel
theorem ddX5_addGate_26 : decode cX5_addGate 26 = .ok (.goto 4, 3) := by decide +kernel
theorem ddX5_addGate_29 : decode cX5_addGate 29 = .ok (.iconst 0, 1) := by decide +kernel
theorem ddX5_addGate_30 : decode cX5_addGate 30 = .ok (.invokevirtual 71, 3) := by decide +kernel
theorem ddX5_addGate_33 : decode cX5_addGate 33 = .ok (.ifCond .eq 5, 3) := by decide +kernel
theorem ddX5_addGate_36 : decode cX5_addGate 36 = .ok (.iconst 0, 1) := by decide +kernel
theorem ddX5_addGate_37 : decode cX5_addGate 37 = .ok (.ireturn, 1) := by decide +kernel
theorem ddX5_addGate_38 : decode cX5_addGate 38 = .ok (.aload_n 0, 1) := by decide +kernel
theorem ddX5_addGate_39 : decode cX5_addGate 39 = .ok (.aload_n 0, 1) := by decide +kernel
theorem ddX5_addGate_40 : decode cX5_addGate 40 = .ok (.getfield 7, 3) := by decide +kernel
theorem ddX5_addGate_43 : decode cX5_addGate 43 = .ok (.invokevirtual 74, 3) := by decide +kernel
theorem ddX5_addGate_46 : decode cX5_addGate 46 = .ok (.aload_n 0, 1) := by decide +kernel
theorem ddX5_addGate_47 : decode cX5_addGate 47 = .ok (.getfield 7, 3) := by decide +kernel
theorem ddX5_addGate_50 : decode cX5_addGate 50 = .ok (.iconst 4, 1) := by decide +kernel
theorem ddX5_addGate_51 : decode cX5_addGate 51 = .ok (.aload_n 0, 1) := by decide +kernel
theorem ddX5_addGate_52 : decode cX5_addGate 52 = .ok (.getfield 7, 3) := by decide +kernel
theorem ddX5_addGate_55 : decode cX5_addGate 55 = .ok (.iconst 0, 1) := by decide +kernel
theorem ddX5_addGate_56 : decode cX5_addGate 56 = .ok (.iaload, 1) := by decide +kernel
theorem ddX5_addGate_57 : decode cX5_addGate 57 = .ok (.iadd, 1) := by decide +kernel
theorem ddX5_addGate_58 : decode cX5_addGate 58 = .ok (.iload_n 1, 1) := by decide +kernel
theorem ddX5_addGate_59 : decode cX5_addGate 59 = .ok (.iastore, 1) := by decide +kernel
theorem ddX5_addGate_60 : decode cX5_addGate 60 = .ok (.aload_n 0, 1) := by decide +kernel
theorem ddX5_addGate_61 : decode cX5_addGate 61 = .ok (.getfield 7, 3) := by decide +kernel
theorem ddX5_addGate_64 : decode cX5_addGate 64 = .ok (.iconst 0, 1) := by decide +kernel
theorem ddX5_addGate_65 : decode cX5_addGate 65 = .ok (.dup2, 1) := by decide +kernel
theorem ddX5_addGate_66 : decode cX5_addGate 66 = .ok (.iaload, 1) := by decide +kernel
theorem ddX5_addGate_67 : decode cX5_addGate 67 = .ok (.iconst 1, 1) := by decide +kernel
theorem ddX5_addGate_68 : decode cX5_addGate 68 = .ok (.iadd, 1) := by decide +kernel
theorem ddX5_addGate_69 : decode cX5_addGate 69 = .ok (.iastore, 1) := by decide +kernel
theorem ddX5_addGate_70 : decode cX5_addGate 70 = .ok (.aload_n 0, 1) := by decide +kernel
theorem ddX5_addGate_71 : decode cX5_addGate 71 = .ok (.getfield 7, 3) := by decide +kernel
theorem ddX5_addGate_74 : decode cX5_addGate 74 = .ok (.iconst 0, 1) := by decide +kernel
theorem ddX5_addGate_75 : decode cX5_addGate 75 = .ok (.iaload, 1) := by decide +kernel
theorem ddX5_addGate_76 : decode cX5_addGate 76 = .ok (.iconst 1, 1) := by decide +kernel
theorem ddX5_addGate_77 : decode cX5_addGate 77 = .ok (.isub, 1) := by decide +kernel
theorem ddX5_addGate_78 : decode cX5_addGate 78 = .ok (.ireturn, 1) := by decide +kernel
theorem ddX5_addGuard_0 : decode cX5_addGuard 0 = .ok (.aload_n 0, 1) := by decide +kernel
theorem ddX5_addGuard_1 : decode cX5_addGuard 1 = .ok (.iload_n 1, 1) := by decide +kernel
theorem ddX5_addGuard_2 : decode cX5_addGuard 2 = .ok (.iconst 1, 1) := by decide +kernel
theorem ddX5_addGuard_3 : decode cX5_addGuard 3 = .ok (.bipush 9, 2) := by decide +kernel
theorem ddX5_addGuard_5 : decode cX5_addGuard 5 = .ok (.invokestatic 56, 3) := by decide +kernel
theorem ddX5_addGuard_8 : decode cX5_addGuard 8 = .ok (.ifCond .ne 7, 3) := by decide +kernel
theorem ddX5_addGuard_11 : decode cX5_addGuard 11 = .ok (.iconst 1, 1) := by decide +kernel
theorem ddX5_addGuard_12 : decode cX5_addGuard 12 = .ok (.goto 19, 3) := by decide +kernel
theorem ddX5_addGuard_15 : decode cX5_addGuard 15 = .ok (.aload_n 0, 1) := by decide +kernel
theorem ddX5_addGuard_16 : decode cX5_addGuard 16 = .ok (.getfield 7, 3) := by decide +kernel
theorem ddX5_addGuard_19 : decode cX5_addGuard 19 = .ok (.iconst 1, 1) := by decide +kernel
theorem ddX5_addGuard_20 : decode cX5_addGuard 20 = .ok (.iaload, 1) := by decide +kernel
theorem ddX5_addGuard_21 : decode cX5_addGuard 21 = .ok (.bipush 10, 2) := by decide +kernel
theorem ddX5_addGuard_23 : decode cX5_addGuard 23 = .ok (.if_icmp .ne 7, 3) := by decide +kernel
theorem ddX5_addGuard_26 : decode cX5_addGuard 26 = .ok (.iconst 2, 1) := by decide +kernel
theorem ddX5_addGuard_27 : decode cX5_addGuard 27 = .ok (.goto 4, 3) := by decide +kernel
theorem ddX5_addGuard_30 : decode cX5_addGuard 30 = .ok (.iconst 0, 1) := by decide +kernel
theorem ddX5_addGuard_31 : decode cX5_addGuard 31 = .ok (.invokevirtual 71, 3) := by decide +kernel
theorem ddX5_addGuard_34 : decode cX5_addGuard 34 = .ok (.ifCond .eq 5, 3) := by decide +kernel
theorem ddX5_addGuard_37 : decode cX5_addGuard 37 = .ok (.iconst 0, 1) := by decide +kernel
theorem ddX5_addGuard_38 : decode cX5_addGuard 38 = .ok (.ireturn, 1) := by decide +kernel
theorem ddX5_addGuard_39 : decode cX5_addGuard 39 = .ok (.aload_n 0, 1) := by decide +kernel
theorem ddX5_addGuard_40 : decode cX5_addGuard 40 = .ok (.aload_n 0, 1) := by decide +kernel
theorem ddX5_addGuard_41 : decode cX5_addGuard 41 = .ok (.getfield 7, 3) := by decide +kernel
theorem ddX5_addGuard_44 : decode cX5_addGuard 44 = .ok (.invokevirtual 74, 3) := by decide +kernel
theorem ddX5_addGuard_47 : decode cX5_addGuard 47 = .ok (.aload_n 0, 1) := by decide +kernel
theorem ddX5_addGuard_48 : decode cX5_addGuard 48 = .ok (.getfield 7, 3) := by decide +kernel
theorem ddX5_addGuard_51 : decode cX5_addGuard 51 = .ok (.bipush 9, 2) := by decide +kernel
theorem ddX5_addGuard_53 : decode cX5_addGuard 53 = .ok (.iconst 2, 1) := by decide +kernel
theorem ddX5_addGuard_54 : decode cX5_addGuard 54 = .ok (.aload_n 0, 1) := by decide +kernel
theorem ddX5_addGuard_55 : decode cX5_addGuard 55 = .ok (.getfield 7, 3) := by decide +kernel
theorem ddX5_addGuard_58 : decode cX5_addGuard 58 = .ok (.iconst 1, 1) := by decide +kernel
theorem ddX5_addGuard_59 : decode cX5_addGuard 59 = .ok (.iaload, 1) := by decide +kernel
theorem ddX5_addGuard_60 : decode cX5_addGuard 60 = .ok (.imul, 1) := by decide +kernel
theorem ddX5_addGuard_61 : decode cX5_addGuard 61 = .ok (.iadd, 1) := by decide +kernel
theorem ddX5_addGuard_62 : decode cX5_addGuard 62 = .ok (.iload_n 1, 1) := by decide +kernel
theorem ddX5_addGuard_63 : decode cX5_addGuard 63 = .ok (.iastore, 1) := by decide +kernel
theorem ddX5_addGuard_64 : decode cX5_addGuard 64 = .ok (.aload_n 0, 1) := by decide +kernel
theorem ddX5_addGuard_65 : decode cX5_addGuard 65 = .ok (.getfield 7, 3) := by decide +kernel
theorem ddX5_addGuard_68 : decode cX5_addGuard 68 = .ok (.iconst 1, 1) := by decide +kernel
theorem ddX5_addGuard_69 : decode cX5_addGuard 69 = .ok (.dup2, 1) := by decide +kernel
theorem ddX5_addGuard_70 : decode cX5_addGuard 70 = .ok (.iaload, 1) := by decide +kernel
theorem ddX5_addGuard_71 : decode cX5_addGuard 71 = .ok (.iconst 1, 1) := by decide +kernel
theorem ddX5_addGuard_72 : decode cX5_addGuard 72 = .ok (.iadd, 1) := by decide +kernel
theorem ddX5_addGuard_73 : decode cX5_addGuard 73 = .ok (.iastore, 1) := by decide +kernel
theorem ddX5_addGuard_74 : decode cX5_addGuard 74 = .ok (.aload_n 0, 1) := by decide +kernel
theorem ddX5_addGuard_75 : decode cX5_addGuard 75 = .ok (.getfield 7, 3) := by decide +kernel
theorem ddX5_addGuard_78 : decode cX5_addGuard 78 = .ok (.iconst 1, 1) := by decide +kernel
theorem ddX5_addGuard_79 : decode cX5_addGuard 79 = .ok (.iaload, 1) := by decide +kernel
theorem ddX5_addGuard_80 : decode cX5_addGuard 80 = .ok (.iconst 1, 1) := by decide +kernel
theorem ddX5_addGuard_81 : decode cX5_addGuard 81 = .ok (.isub, 1) := by decide +kernel
theorem ddX5_addGuard_82 : decode cX5_addGuard 82 = .ok (.ireturn, 1) := by decide +kernel
theorem ddX5_gateCount_0 : decode cX5_gateCount 0 = .ok (.aload_n 0, 1) := by decide +kernel
theorem ddX5_gateCount_1 : decode cX5_gateCount 1 = .ok (.iconst 0, 1) := by decide +kernel
theorem ddX5_gateCount_2 : decode cX5_gateCount 2 = .ok (.putfield 42, 3) := by decide +kernel
theorem ddX5_gateCount_5 : decode cX5_gateCount 5 = .ok (.aload_n 0, 1) := by decide +kernel
theorem ddX5_gateCount_6 : decode cX5_gateCount 6 = .ok (.getfield 7, 3) := by decide +kernel
theorem ddX5_gateCount_9 : decode cX5_gateCount 9 = .ok (.iconst 0, 1) := by decide +kernel
theorem ddX5_gateCount_10 : decode cX5_gateCount 10 = .ok (.iaload, 1) := by decide +kernel
theorem ddX5_gateCount_11 : decode cX5_gateCount 11 = .ok (.ireturn, 1) := by decide +kernel
theorem ddX5_guardCount_0 : decode cX5_guardCount 0 = .ok (.aload_n 0, 1) := by decide +kernel
theorem ddX5_guardCount_1 : decode cX5_guardCount 1 = .ok (.iconst 0, 1) := by decide +kernel
theorem ddX5_guardCount_2 : decode cX5_guardCount 2 = .ok (.putfield 42, 3) := by decide +kernel
theorem ddX5_guardCount_5 : decode cX5_guardCount 5 = .ok (.aload_n 0, 1) := by decide +kernel
theorem ddX5_guardCount_6 : decode cX5_guardCount 6 = .ok (.getfield 7, 3) := by decide +kernel
theorem ddX5_guardCount_9 : decode cX5_guardCount 9 = .ok (.iconst 1, 1) := by decide +kernel
theorem ddX5_guardCount_10 : decode cX5_guardCount 10 = .ok (.iaload, 1) := by decide +kernel
theorem ddX5_guardCount_11 : decode cX5_guardCount 11 = .ok (.ireturn, 1) := by decide +kernel
theorem ddX5_neededRank_0 : decode cX5_neededRank 0 = .ok (.aload_n 0, 1) := by decide +kernel
theorem ddX5_neededRank_1 : decode cX5_neededRank 1 = .ok (.aload_n 0, 1) := by decide +kernel
theorem ddX5_neededRank_2 : decode cX5_neededRank 2 = .ok (.iload_n 1, 1) := by decide +kernel
theorem ddX5_neededRank_3 : decode cX5_neededRank 3 = .ok (.invokevirtual 60, 3) := by decide +kernel
theorem ddX5_neededRank_6 : decode cX5_neededRank 6 = .ok (.ifCond .eq 7, 3) := by decide +kernel
theorem ddX5_neededRank_9 : decode cX5_neededRank 9 = .ok (.iconst 0, 1) := by decide +kernel
theorem ddX5_neededRank_10 : decode cX5_neededRank 10 = .ok (.goto 4, 3) := by decide +kernel
theorem ddX5_neededRank_13 : decode cX5_neededRank 13 = .ok (.iconst 1, 1) := by decide +kernel
theorem ddX5_neededRank_14 : decode cX5_neededRank 14 = .ok (.invokevirtual 71, 3) := by decide +kernel
theorem ddX5_neededRank_17 : decode cX5_neededRank 17 = .ok (.ifCond .eq 7, 3) := by decide +kernel
theorem ddX5_neededRank_20 : decode cX5_neededRank 20 = .ok (.iconst 0, 1) := by decide +kernel
theorem ddX5_neededRank_21 : decode cX5_neededRank 21 = .ok (.goto 11, 3) := by decide +kernel
theorem ddX5_neededRank_24 : decode cX5_neededRank 24 = .ok (.aload_n 0, 1) := by decide +kernel
theorem ddX5_neededRank_25 : decode cX5_neededRank 25 = .ok (.getfield 7, 3) := by decide +kernel
theorem ddX5_neededRank_28 : decode cX5_neededRank 28 = .ok (.iconst 4, 1) := by decide +kernel
theorem ddX5_neededRank_29 : decode cX5_neededRank 29 = .ok (.iload_n 1, 1) := by decide +kernel
theorem ddX5_neededRank_30 : decode cX5_neededRank 30 = .ok (.iadd, 1) := by decide +kernel
theorem ddX5_neededRank_31 : decode cX5_neededRank 31 = .ok (.iaload, 1) := by decide +kernel
theorem ddX5_neededRank_32 : decode cX5_neededRank 32 = .ok (.ireturn, 1) := by decide +kernel
theorem ddX5_isNone_0 : decode cX5_isNone 0 = .ok (.aload_n 0, 1) := by decide +kernel
theorem ddX5_isNone_1 : decode cX5_isNone 1 = .ok (.aload_n 0, 1) := by decide +kernel
theorem ddX5_isNone_2 : decode cX5_isNone 2 = .ok (.iload_n 1, 1) := by decide +kernel
theorem ddX5_isNone_3 : decode cX5_isNone 3 = .ok (.invokevirtual 78, 3) := by decide +kernel
theorem ddX5_isNone_6 : decode cX5_isNone 6 = .ok (.ifCond .eq 7, 3) := by decide +kernel
theorem ddX5_isNone_9 : decode cX5_isNone 9 = .ok (.iconst 0, 1) := by decide +kernel
theorem ddX5_isNone_10 : decode cX5_isNone 10 = .ok (.goto 4, 3) := by decide +kernel
theorem ddX5_isNone_13 : decode cX5_isNone 13 = .ok (.iconst 1, 1) := by decide +kernel
theorem ddX5_isNone_14 : decode cX5_isNone 14 = .ok (.invokevirtual 71, 3) := by decide +kernel
theorem ddX5_isNone_17 : decode cX5_isNone 17 = .ok (.ireturn, 1) := by decide +kernel
theorem ddX5_rank_0 : decode cX5_rank 0 = .ok (.aload_n 0, 1) := by decide +kernel
theorem ddX5_rank_1 : decode cX5_rank 1 = .ok (.iload_n 1, 1) := by decide +kernel
theorem ddX5_rank_2 : decode cX5_rank 2 = .ok (.invokevirtual 81, 3) := by decide +kernel
theorem ddX5_rank_5 : decode cX5_rank 5 = .ok (.ifCond .eq 7, 3) := by decide +kernel
theorem ddX5_rank_8 : decode cX5_rank 8 = .ok (.iconst 0, 1) := by decide +kernel
theorem ddX5_rank_9 : decode cX5_rank 9 = .ok (.goto 8, 3) := by decide +kernel
theorem ddX5_rank_12 : decode cX5_rank 12 = .ok (.aload_n 0, 1) := by decide +kernel
theorem ddX5_rank_13 : decode cX5_rank 13 = .ok (.iload_n 1, 1) := by decide +kernel
theorem ddX5_rank_14 : decode cX5_rank 14 = .ok (.invokevirtual 84, 3) := by decide +kernel
theorem ddX5_rank_17 : decode cX5_rank 17 = .ok (.ireturn, 1) := by decide +kernel
theorem ddX5_faints_0 : decode cX5_faints 0 = .ok (.aload_n 0, 1) := by decide +kernel
theorem ddX5_faints_1 : decode cX5_faints 1 = .ok (.iload_n 1, 1) := by decide +kernel
theorem ddX5_faints_2 : decode cX5_faints 2 = .ok (.invokevirtual 81, 3) := by decide +kernel
theorem ddX5_faints_5 : decode cX5_faints 5 = .ok (.ifCond .eq 7, 3) := by decide +kernel
theorem ddX5_faints_8 : decode cX5_faints 8 = .ok (.iconst 0, 1) := by decide +kernel
theorem ddX5_faints_9 : decode cX5_faints 9 = .ok (.goto 16, 3) := by decide +kernel
theorem ddX5_faints_12 : decode cX5_faints 12 = .ok (.aload_n 0, 1) := by decide +kernel
theorem ddX5_faints_13 : decode cX5_faints 13 = .ok (.getfield 7, 3) := by decide +kernel
theorem ddX5_faints_16 : decode cX5_faints 16 = .ok (.bipush 9, 2) := by decide +kernel
theorem ddX5_faints_18 : decode cX5_faints 18 = .ok (.iconst 2, 1) := by decide +kernel
theorem ddX5_faints_19 : decode cX5_faints 19 = .ok (.iload_n 1, 1) := by decide +kernel
theorem ddX5_faints_20 : decode cX5_faints 20 = .ok (.imul, 1) := by decide +kernel
theorem ddX5_faints_21 : decode cX5_faints 21 = .ok (.iadd, 1) := by decide +kernel
theorem ddX5_faints_22 : decode cX5_faints 22 = .ok (.iconst 1, 1) := by decide +kernel
theorem ddX5_faints_23 : decode cX5_faints 23 = .ok (.iadd, 1) := by decide +kernel
theorem ddX5_faints_24 : decode cX5_faints 24 = .ok (.iaload, 1) := by decide +kernel
theorem ddX5_faints_25 : decode cX5_faints 25 = .ok (.ireturn, 1) := by decide +kernel
theorem ddX5_refuses_0 : decode cX5_refuses 0 = .ok (.aload_n 0, 1) := by decide +kernel
theorem ddX5_refuses_1 : decode cX5_refuses 1 = .ok (.aload_n 0, 1) := by decide +kernel
theorem ddX5_refuses_2 : decode cX5_refuses 2 = .ok (.iload_n 1, 1) := by decide +kernel
theorem ddX5_refuses_3 : decode cX5_refuses 3 = .ok (.iload_n 2, 1) := by decide +kernel
theorem ddX5_refuses_4 : decode cX5_refuses 4 = .ok (.invokevirtual 67, 3) := by decide +kernel
theorem ddX5_refuses_7 : decode cX5_refuses 7 = .ok (.putfield 88, 3) := by decide +kernel
theorem ddX5_refuses_10 : decode cX5_refuses 10 = .ok (.aload_n 0, 1) := by decide +kernel
theorem ddX5_refuses_11 : decode cX5_refuses 11 = .ok (.getfield 88, 3) := by decide +kernel
theorem ddX5_refuses_14 : decode cX5_refuses 14 = .ok (.ifCond .lt 5, 3) := by decide +kernel
theorem ddX5_refuses_17 : decode cX5_refuses 17 = .ok (.iconst 1, 1) := by decide +kernel
theorem ddX5_refuses_18 : decode cX5_refuses 18 = .ok (.ireturn, 1) := by decide +kernel
theorem ddX5_refuses_19 : decode cX5_refuses 19 = .ok (.aload_n 0, 1) := by decide +kernel
theorem ddX5_refuses_20 : decode cX5_refuses 20 = .ok (.aload_n 0, 1) := by decide +kernel
theorem ddX5_refuses_21 : decode cX5_refuses 21 = .ok (.iload_n 3, 1) := by decide +kernel
theorem ddX5_refuses_22 : decode cX5_refuses 22 = .ok (.invokevirtual 84, 3) := by decide +kernel
theorem ddX5_refuses_25 : decode cX5_refuses 25 = .ok (.putfield 88, 3) := by decide +kernel
theorem ddX5_refuses_28 : decode cX5_refuses 28 = .ok (.aload_n 0, 1) := by decide +kernel
theorem ddX5_refuses_29 : decode cX5_refuses 29 = .ok (.getfield 88, 3) := by decide +kernel
theorem ddX5_refuses_32 : decode cX5_refuses 32 = .ok (.aload_n 0, 1) := by decide +kernel
theorem ddX5_refuses_33 : decode cX5_refuses 33 = .ok (.getfield 7, 3) := by decide +kernel
theorem ddX5_refuses_36 : decode cX5_refuses 36 = .ok (.iconst 4, 1) := by decide +kernel
theorem ddX5_refuses_37 : decode cX5_refuses 37 = .ok (.iload_n 1, 1) := by decide +kernel
theorem ddX5_refuses_38 : decode cX5_refuses 38 = .ok (.iadd, 1) := by decide +kernel
theorem ddX5_refuses_39 : decode cX5_refuses 39 = .ok (.iaload, 1) := by decide +kernel
theorem ddX5_refuses_40 : decode cX5_refuses 40 = .ok (.if_icmp .ge 5, 3) := by decide +kernel
theorem ddX5_refuses_43 : decode cX5_refuses 43 = .ok (.iconst 2, 1) := by decide +kernel
theorem ddX5_refuses_44 : decode cX5_refuses 44 = .ok (.ireturn, 1) := by decide +kernel
theorem ddX5_refuses_45 : decode cX5_refuses 45 = .ok (.aload_n 0, 1) := by decide +kernel
theorem ddX5_refuses_46 : decode cX5_refuses 46 = .ok (.iload_n 2, 1) := by decide +kernel
theorem ddX5_refuses_47 : decode cX5_refuses 47 = .ok (.putfield 88, 3) := by decide +kernel
theorem ddX5_refuses_50 : decode cX5_refuses 50 = .ok (.aload_n 0, 1) := by decide +kernel
theorem ddX5_refuses_51 : decode cX5_refuses 51 = .ok (.iload_n 3, 1) := by decide +kernel
theorem ddX5_refuses_52 : decode cX5_refuses 52 = .ok (.iload_n 2, 1) := by decide +kernel
theorem ddX5_refuses_53 : decode cX5_refuses 53 = .ok (.invokevirtual 91, 3) := by decide +kernel
theorem ddX5_refuses_56 : decode cX5_refuses 56 = .ok (.ifCond .eq 5, 3) := by decide +kernel
theorem ddX5_refuses_59 : decode cX5_refuses 59 = .ok (.iconst 3, 1) := by decide +kernel
theorem ddX5_refuses_60 : decode cX5_refuses 60 = .ok (.ireturn, 1) := by decide +kernel
theorem ddX5_refuses_61 : decode cX5_refuses 61 = .ok (.aload_n 0, 1) := by decide +kernel
theorem ddX5_refuses_62 : decode cX5_refuses 62 = .ok (.aload_n 0, 1) := by decide +kernel
theorem ddX5_refuses_63 : decode cX5_refuses 63 = .ok (.iload_n 3, 1) := by decide +kernel
theorem ddX5_refuses_64 : decode cX5_refuses 64 = .ok (.iload_n 2, 1) := by decide +kernel
theorem ddX5_refuses_65 : decode cX5_refuses 65 = .ok (.invokevirtual 95, 3) := by decide +kernel
theorem ddX5_refuses_68 : decode cX5_refuses 68 = .ok (.putfield 88, 3) := by decide +kernel
theorem ddX5_refuses_71 : decode cX5_refuses 71 = .ok (.aload_n 0, 1) := by decide +kernel
theorem ddX5_refuses_72 : decode cX5_refuses 72 = .ok (.getfield 88, 3) := by decide +kernel
theorem ddX5_refuses_75 : decode cX5_refuses 75 = .ok (.ifCond .lt 5, 3) := by decide +kernel
theorem ddX5_refuses_78 : decode cX5_refuses 78 = .ok (.iconst 4, 1) := by decide +kernel
theorem ddX5_refuses_79 : decode cX5_refuses 79 = .ok (.ireturn, 1) := by decide +kernel
theorem ddX5_refuses_80 : decode cX5_refuses 80 = .ok (.aload_n 0, 1) := by decide +kernel
theorem ddX5_refuses_81 : decode cX5_refuses 81 = .ok (.aload_n 0, 1) := by decide +kernel
theorem ddX5_refuses_82 : decode cX5_refuses 82 = .ok (.iload_n 3, 1) := by decide +kernel
theorem ddX5_refuses_83 : decode cX5_refuses 83 = .ok (.iload_n 2, 1) := by decide +kernel
theorem ddX5_refuses_84 : decode cX5_refuses 84 = .ok (.iconst 1, 1) := by decide +kernel
theorem ddX5_refuses_85 : decode cX5_refuses 85 = .ok (.isub, 1) := by decide +kernel
theorem ddX5_refuses_86 : decode cX5_refuses 86 = .ok (.invokevirtual 95, 3) := by decide +kernel
theorem ddX5_refuses_89 : decode cX5_refuses 89 = .ok (.putfield 88, 3) := by decide +kernel
theorem ddX5_refuses_92 : decode cX5_refuses 92 = .ok (.aload_n 0, 1) := by decide +kernel
theorem ddX5_refuses_93 : decode cX5_refuses 93 = .ok (.getfield 88, 3) := by decide +kernel
theorem ddX5_refuses_96 : decode cX5_refuses 96 = .ok (.ifCond .lt 5, 3) := by decide +kernel
theorem ddX5_refuses_99 : decode cX5_refuses 99 = .ok (.iconst 5, 1) := by decide +kernel
theorem ddX5_refuses_100 : decode cX5_refuses 100 = .ok (.ireturn, 1) := by decide +kernel
theorem ddX5_refuses_101 : decode cX5_refuses 101 = .ok (.aload_n 0, 1) := by decide +kernel
theorem ddX5_refuses_102 : decode cX5_refuses 102 = .ok (.aload_n 0, 1) := by decide +kernel
theorem ddX5_refuses_103 : decode cX5_refuses 103 = .ok (.iload_n 3, 1) := by decide +kernel
theorem ddX5_refuses_104 : decode cX5_refuses 104 = .ok (.iload_n 2, 1) := by decide +kernel
theorem ddX5_refuses_105 : decode cX5_refuses 105 = .ok (.iconst 1, 1) := by decide +kernel
theorem ddX5_refuses_106 : decode cX5_refuses 106 = .ok (.iadd, 1) := by decide +kernel
theorem ddX5_refuses_107 : decode cX5_refuses 107 = .ok (.invokevirtual 95, 3) := by decide +kernel
theorem ddX5_refuses_110 : decode cX5_refuses 110 = .ok (.putfield 88, 3) := by decide +kernel
theorem ddX5_refuses_113 : decode cX5_refuses 113 = .ok (.aload_n 0, 1) := by decide +kernel
theorem ddX5_refuses_114 : decode cX5_refuses 114 = .ok (.getfield 88, 3) := by decide +kernel
theorem ddX5_refuses_117 : decode cX5_refuses 117 = .ok (.ifCond .lt 8, 3) := by decide +kernel
theorem ddX5_refuses_120 : decode cX5_refuses 120 = .ok (.bipush 6, 2) := by decide +kernel
theorem ddX5_refuses_122 : decode cX5_refuses 122 = .ok (.goto 4, 3) := by decide +kernel
theorem ddX5_refuses_125 : decode cX5_refuses 125 = .ok (.iconst 0, 1) := by decide +kernel
theorem ddX5_refuses_126 : decode cX5_refuses 126 = .ok (.ireturn, 1) := by decide +kernel
theorem ddX5_isRefused_0 : decode cX5_isRefused 0 = .ok (.aload_n 0, 1) := by decide +kernel
theorem ddX5_isRefused_1 : decode cX5_isRefused 1 = .ok (.iload_n 1, 1) := by decide +kernel
theorem ddX5_isRefused_2 : decode cX5_isRefused 2 = .ok (.iload_n 2, 1) := by decide +kernel
theorem ddX5_isRefused_3 : decode cX5_isRefused 3 = .ok (.iload_n 3, 1) := by decide +kernel
theorem ddX5_isRefused_4 : decode cX5_isRefused 4 = .ok (.invokevirtual 98, 3) := by decide +kernel
theorem ddX5_isRefused_7 : decode cX5_isRefused 7 = .ok (.istore 5, 2) := by decide +kernel
theorem ddX5_isRefused_9 : decode cX5_isRefused 9 = .ok (.iload 5, 2) := by decide +kernel
theorem ddX5_isRefused_11 : decode cX5_isRefused 11 = .ok (.ifCond .ne 5, 3) := by decide +kernel
theorem ddX5_isRefused_14 : decode cX5_isRefused 14 = .ok (.iconst 0, 1) := by decide +kernel
theorem ddX5_isRefused_15 : decode cX5_isRefused 15 = .ok (.ireturn, 1) := by decide +kernel
theorem ddX5_isRefused_16 : decode cX5_isRefused 16 = .ok (.aload_n 0, 1) := by decide +kernel
theorem ddX5_isRefused_17 : decode cX5_isRefused 17 = .ok (.iload 5, 2) := by decide +kernel
theorem ddX5_isRefused_19 : decode cX5_isRefused 19 = .ok (.putfield 102, 3) := by decide +kernel
theorem ddX5_isRefused_22 : decode cX5_isRefused 22 = .ok (.aload_n 0, 1) := by decide +kernel
theorem ddX5_isRefused_23 : decode cX5_isRefused 23 = .ok (.aload_n 0, 1) := by decide +kernel
theorem ddX5_isRefused_24 : decode cX5_isRefused 24 = .ok (.getfield 88, 3) := by decide +kernel
theorem ddX5_isRefused_27 : decode cX5_isRefused 27 = .ok (.putfield 105, 3) := by decide +kernel
theorem ddX5_isRefused_30 : decode cX5_isRefused 30 = .ok (.aload_n 0, 1) := by decide +kernel
theorem ddX5_isRefused_31 : decode cX5_isRefused 31 = .ok (.iload 4, 2) := by decide +kernel
theorem ddX5_isRefused_33 : decode cX5_isRefused 33 = .ok (.putfield 42, 3) := by decide +kernel
theorem ddX5_isRefused_36 : decode cX5_isRefused 36 = .ok (.iconst 1, 1) := by decide +kernel
theorem ddX5_isRefused_37 : decode cX5_isRefused 37 = .ok (.ireturn, 1) := by decide +kernel
theorem ddX5_duties_0 : decode cX5_duties 0 = .ok (.iconst 0, 1) := by decide +kernel
theorem ddX5_duties_1 : decode cX5_duties 1 = .ok (.istore_n 2, 1) := by decide +kernel
theorem ddX5_duties_2 : decode cX5_duties 2 = .ok (.iconst 0, 1) := by decide +kernel
theorem ddX5_duties_3 : decode cX5_duties 3 = .ok (.istore_n 3, 1) := by decide +kernel
theorem ddX5_duties_4 : decode cX5_duties 4 = .ok (.iload_n 3, 1) := by decide +kernel
theorem ddX5_duties_5 : decode cX5_duties 5 = .ok (.bipush 28, 2) := by decide +kernel
theorem ddX5_duties_7 : decode cX5_duties 7 = .ok (.aload_n 0, 1) := by decide +kernel
theorem ddX5_duties_8 : decode cX5_duties 8 = .ok (.getfield 7, 3) := by decide +kernel
theorem ddX5_duties_11 : decode cX5_duties 11 = .ok (.iconst 0, 1) := by decide +kernel
theorem ddX5_duties_12 : decode cX5_duties 12 = .ok (.iaload, 1) := by decide +kernel
theorem ddX5_duties_13 : decode cX5_duties 13 = .ok (.imul, 1) := by decide +kernel
theorem ddX5_duties_14 : decode cX5_duties 14 = .ok (.if_icmp .ge 30, 3) := by decide +kernel
theorem ddX5_duties_17 : decode cX5_duties 17 = .ok (.iload_n 2, 1) := by decide +kernel
theorem ddX5_duties_18 : decode cX5_duties 18 = .ok (.aload_n 0, 1) := by decide +kernel
theorem ddX5_duties_19 : decode cX5_duties 19 = .ok (.getfield 7, 3) := by decide +kernel
theorem ddX5_duties_22 : decode cX5_duties 22 = .ok (.bipush 39, 2) := by decide +kernel
theorem ddX5_duties_24 : decode cX5_duties 24 = .ok (.iload_n 3, 1) := by decide +kernel
theorem ddX5_duties_25 : decode cX5_duties 25 = .ok (.iadd, 1) := by decide +kernel
theorem ddX5_duties_26 : decode cX5_duties 26 = .ok (.iaload, 1) := by decide +kernel
theorem ddX5_duties_27 : decode cX5_duties 27 = .ok (.iload_n 1, 1) := by decide +kernel
theorem ddX5_duties_28 : decode cX5_duties 28 = .ok (.if_icmp .ne 7, 3) := by decide +kernel
theorem ddX5_duties_31 : decode cX5_duties 31 = .ok (.iconst 1, 1) := by decide +kernel
theorem ddX5_duties_32 : decode cX5_duties 32 = .ok (.goto 4, 3) := by decide +kernel
theorem ddX5_duties_35 : decode cX5_duties 35 = .ok (.iconst 0, 1) := by decide +kernel
theorem ddX5_duties_36 : decode cX5_duties 36 = .ok (.iadd, 1) := by decide +kernel
theorem ddX5_duties_37 : decode cX5_duties 37 = .ok (.istore_n 2, 1) := by decide +kernel
theorem ddX5_duties_38 : decode cX5_duties 38 = .ok (.iinc 3 1, 3) := by decide +kernel
theorem ddX5_duties_41 : decode cX5_duties 41 = .ok (.goto (-37), 3) := by decide +kernel
theorem ddX5_duties_44 : decode cX5_duties 44 = .ok (.iload_n 2, 1) := by decide +kernel
theorem ddX5_duties_45 : decode cX5_duties 45 = .ok (.ireturn, 1) := by decide +kernel
theorem ddX5_assign_0 : decode cX5_assign 0 = .ok (.aload_n 0, 1) := by decide +kernel
theorem ddX5_assign_1 : decode cX5_assign 1 = .ok (.aload_n 0, 1) := by decide +kernel
theorem ddX5_assign_2 : decode cX5_assign 2 = .ok (.iload_n 1, 1) := by decide +kernel
theorem ddX5_assign_3 : decode cX5_assign 3 = .ok (.iload_n 2, 1) := by decide +kernel
theorem ddX5_assign_4 : decode cX5_assign 4 = .ok (.invokevirtual 108, 3) := by decide +kernel
theorem ddX5_assign_7 : decode cX5_assign 7 = .ok (.ifCond .eq 11, 3) := by decide +kernel
theorem ddX5_assign_10 : decode cX5_assign 10 = .ok (.aload_n 0, 1) := by decide +kernel
theorem ddX5_assign_11 : decode cX5_assign 11 = .ok (.iload_n 3, 1) := by decide +kernel
theorem ddX5_assign_12 : decode cX5_assign 12 = .ok (.invokevirtual 78, 3) := by decide +kernel
theorem ddX5_assign_15 : decode cX5_assign 15 = .ok (.ifCond .ne 7, 3) := by decide +kernel
theorem ddX5_assign_18 : decode cX5_assign 18 = .ok (.iconst 1, 1) := by decide +kernel
theorem ddX5_assign_19 : decode cX5_assign 19 = .ok (.goto 18, 3) := by decide +kernel
theorem ddX5_assign_22 : decode cX5_assign 22 = .ok (.iload_n 2, 1) := by decide +kernel
theorem ddX5_assign_23 : decode cX5_assign 23 = .ok (.aload_n 0, 1) := by decide +kernel
theorem ddX5_assign_24 : decode cX5_assign 24 = .ok (.getfield 7, 3) := by decide +kernel
theorem ddX5_assign_27 : decode cX5_assign 27 = .ok (.iconst 2, 1) := by decide +kernel
theorem ddX5_assign_28 : decode cX5_assign 28 = .ok (.iaload, 1) := by decide +kernel
theorem ddX5_assign_29 : decode cX5_assign 29 = .ok (.if_icmp .ge 7, 3) := by decide +kernel
theorem ddX5_assign_32 : decode cX5_assign 32 = .ok (.iconst 2, 1) := by decide +kernel
theorem ddX5_assign_33 : decode cX5_assign 33 = .ok (.goto 4, 3) := by decide +kernel
theorem ddX5_assign_36 : decode cX5_assign 36 = .ok (.iconst 0, 1) := by decide +kernel
theorem ddX5_assign_37 : decode cX5_assign 37 = .ok (.invokevirtual 71, 3) := by decide +kernel
theorem ddX5_assign_40 : decode cX5_assign 40 = .ok (.ifCond .eq 5, 3) := by decide +kernel
theorem ddX5_assign_43 : decode cX5_assign 43 = .ok (.iconst 0, 1) := by decide +kernel
theorem ddX5_assign_44 : decode cX5_assign 44 = .ok (.ireturn, 1) := by decide +kernel
theorem ddX5_assign_45 : decode cX5_assign 45 = .ok (.aload_n 0, 1) := by decide +kernel
theorem ddX5_assign_46 : decode cX5_assign 46 = .ok (.iload_n 1, 1) := by decide +kernel
theorem ddX5_assign_47 : decode cX5_assign 47 = .ok (.iload_n 2, 1) := by decide +kernel
theorem ddX5_assign_48 : decode cX5_assign 48 = .ok (.iload_n 3, 1) := by decide +kernel
theorem ddX5_assign_49 : decode cX5_assign 49 = .ok (.iconst 3, 1) := by decide +kernel
theorem ddX5_assign_50 : decode cX5_assign 50 = .ok (.invokevirtual 111, 3) := by decide +kernel
theorem ddX5_assign_53 : decode cX5_assign 53 = .ok (.ifCond .eq 5, 3) := by decide +kernel
theorem ddX5_assign_56 : decode cX5_assign 56 = .ok (.iconst 0, 1) := by decide +kernel
theorem ddX5_assign_57 : decode cX5_assign 57 = .ok (.ireturn, 1) := by decide +kernel
theorem ddX5_assign_58 : decode cX5_assign 58 = .ok (.aload_n 0, 1) := by decide +kernel
theorem ddX5_assign_59 : decode cX5_assign 59 = .ok (.aload_n 0, 1) := by decide +kernel
theorem ddX5_assign_60 : decode cX5_assign 60 = .ok (.getfield 7, 3) := by decide +kernel
theorem ddX5_assign_63 : decode cX5_assign 63 = .ok (.invokevirtual 74, 3) := by decide +kernel
theorem ddX5_assign_66 : decode cX5_assign 66 = .ok (.aload_n 0, 1) := by decide +kernel
theorem ddX5_assign_67 : decode cX5_assign 67 = .ok (.iload_n 1, 1) := by decide +kernel
theorem ddX5_assign_68 : decode cX5_assign 68 = .ok (.iload_n 2, 1) := by decide +kernel
theorem ddX5_assign_69 : decode cX5_assign 69 = .ok (.iload_n 3, 1) := by decide +kernel
theorem ddX5_assign_70 : decode cX5_assign 70 = .ok (.invokevirtual 115, 3) := by decide +kernel
theorem ddX5_assign_73 : decode cX5_assign 73 = .ok (.aload_n 0, 1) := by decide +kernel
theorem ddX5_assign_74 : decode cX5_assign 74 = .ok (.iload_n 3, 1) := by decide +kernel
theorem ddX5_assign_75 : decode cX5_assign 75 = .ok (.invokevirtual 119, 3) := by decide +kernel
theorem ddX5_assign_78 : decode cX5_assign 78 = .ok (.ireturn, 1) := by decide +kernel
theorem ddX5_canAssign_0 : decode cX5_canAssign 0 = .ok (.aload_n 0, 1) := by decide +kernel
theorem ddX5_canAssign_1 : decode cX5_canAssign 1 = .ok (.aload_n 0, 1) := by decide +kernel
theorem ddX5_canAssign_2 : decode cX5_canAssign 2 = .ok (.iload_n 1, 1) := by decide +kernel
theorem ddX5_canAssign_3 : decode cX5_canAssign 3 = .ok (.iload_n 2, 1) := by decide +kernel
theorem ddX5_canAssign_4 : decode cX5_canAssign 4 = .ok (.invokevirtual 108, 3) := by decide +kernel
theorem ddX5_canAssign_7 : decode cX5_canAssign 7 = .ok (.ifCond .eq 15, 3) := by decide +kernel
theorem ddX5_canAssign_10 : decode cX5_canAssign 10 = .ok (.aload_n 0, 1) := by decide +kernel
theorem ddX5_canAssign_11 : decode cX5_canAssign 11 = .ok (.iload_n 3, 1) := by decide +kernel
theorem ddX5_canAssign_12 : decode cX5_canAssign 12 = .ok (.invokevirtual 78, 3) := by decide +kernel
theorem ddX5_canAssign_15 : decode cX5_canAssign 15 = .ok (.ifCond .eq 7, 3) := by decide +kernel
theorem ddX5_canAssign_18 : decode cX5_canAssign 18 = .ok (.iconst 0, 1) := by decide +kernel
theorem ddX5_canAssign_19 : decode cX5_canAssign 19 = .ok (.goto 4, 3) := by decide +kernel
theorem ddX5_canAssign_22 : decode cX5_canAssign 22 = .ok (.iconst 1, 1) := by decide +kernel
theorem ddX5_canAssign_23 : decode cX5_canAssign 23 = .ok (.invokevirtual 71, 3) := by decide +kernel
theorem ddX5_canAssign_26 : decode cX5_canAssign 26 = .ok (.ifCond .ne 27, 3) := by decide +kernel
theorem ddX5_canAssign_29 : decode cX5_canAssign 29 = .ok (.iload_n 2, 1) := by decide +kernel
theorem ddX5_canAssign_30 : decode cX5_canAssign 30 = .ok (.aload_n 0, 1) := by decide +kernel
theorem ddX5_canAssign_31 : decode cX5_canAssign 31 = .ok (.getfield 7, 3) := by decide +kernel
theorem ddX5_canAssign_34 : decode cX5_canAssign 34 = .ok (.iconst 2, 1) := by decide +kernel
theorem ddX5_canAssign_35 : decode cX5_canAssign 35 = .ok (.iaload, 1) := by decide +kernel
theorem ddX5_canAssign_36 : decode cX5_canAssign 36 = .ok (.if_icmp .lt 17, 3) := by decide +kernel
theorem ddX5_canAssign_39 : decode cX5_canAssign 39 = .ok (.aload_n 0, 1) := by decide +kernel
theorem ddX5_canAssign_40 : decode cX5_canAssign 40 = .ok (.iload_n 1, 1) := by decide +kernel
theorem ddX5_canAssign_41 : decode cX5_canAssign 41 = .ok (.iload_n 2, 1) := by decide +kernel
theorem ddX5_canAssign_42 : decode cX5_canAssign 42 = .ok (.iload_n 3, 1) := by decide +kernel
theorem ddX5_canAssign_43 : decode cX5_canAssign 43 = .ok (.invokevirtual 98, 3) := by decide +kernel
theorem ddX5_canAssign_46 : decode cX5_canAssign 46 = .ok (.ifCond .ne 7, 3) := by decide +kernel
theorem ddX5_canAssign_49 : decode cX5_canAssign 49 = .ok (.iconst 1, 1) := by decide +kernel
theorem ddX5_canAssign_50 : decode cX5_canAssign 50 = .ok (.goto 4, 3) := by decide +kernel
theorem ddX5_canAssign_53 : decode cX5_canAssign 53 = .ok (.iconst 0, 1) := by decide +kernel
theorem ddX5_canAssign_54 : decode cX5_canAssign 54 = .ok (.ireturn, 1) := by decide +kernel
theorem ddX5_remove_0 : decode cX5_remove 0 = .ok (.aload_n 0, 1) := by decide +kernel
theorem ddX5_remove_1 : decode cX5_remove 1 = .ok (.aload_n 0, 1) := by decide +kernel
theorem ddX5_remove_2 : decode cX5_remove 2 = .ok (.iload_n 1, 1) := by decide +kernel
theorem ddX5_remove_3 : decode cX5_remove 3 = .ok (.iload_n 2, 1) := by decide +kernel
theorem ddX5_remove_4 : decode cX5_remove 4 = .ok (.invokevirtual 108, 3) := by decide +kernel
theorem ddX5_remove_7 : decode cX5_remove 7 = .ok (.ifCond .ne 7, 3) := by decide +kernel
theorem ddX5_remove_10 : decode cX5_remove 10 = .ok (.iconst 1, 1) := by decide +kernel
theorem ddX5_remove_11 : decode cX5_remove 11 = .ok (.goto 31, 3) := by decide +kernel
theorem ddX5_remove_14 : decode cX5_remove 14 = .ok (.iload_n 2, 1) := by decide +kernel
theorem ddX5_remove_15 : decode cX5_remove 15 = .ok (.aload_n 0, 1) := by decide +kernel
theorem ddX5_remove_16 : decode cX5_remove 16 = .ok (.getfield 7, 3) := by decide +kernel
theorem ddX5_remove_19 : decode cX5_remove 19 = .ok (.iconst 2, 1) := by decide +kernel
theorem ddX5_remove_20 : decode cX5_remove 20 = .ok (.iaload, 1) := by decide +kernel
theorem ddX5_remove_21 : decode cX5_remove 21 = .ok (.if_icmp .ge 7, 3) := by decide +kernel
theorem ddX5_remove_24 : decode cX5_remove 24 = .ok (.iconst 2, 1) := by decide +kernel
theorem ddX5_remove_25 : decode cX5_remove 25 = .ok (.goto 17, 3) := by decide +kernel
theorem ddX5_remove_28 : decode cX5_remove 28 = .ok (.aload_n 0, 1) := by decide +kernel
theorem ddX5_remove_29 : decode cX5_remove 29 = .ok (.iload_n 1, 1) := by decide +kernel
theorem ddX5_remove_30 : decode cX5_remove 30 = .ok (.iload_n 2, 1) := by decide +kernel
theorem ddX5_remove_31 : decode cX5_remove 31 = .ok (.invokevirtual 67, 3) := by decide +kernel
theorem ddX5_remove_34 : decode cX5_remove 34 = .ok (.ifCond .ge 7, 3) := by decide +kernel
theorem ddX5_remove_37 : decode cX5_remove 37 = .ok (.iconst 3, 1) := by decide +kernel
theorem ddX5_remove_38 : decode cX5_remove 38 = .ok (.goto 4, 3) := by decide +kernel
theorem ddX5_remove_41 : decode cX5_remove 41 = .ok (.iconst 0, 1) := by decide +kernel
theorem ddX5_remove_42 : decode cX5_remove 42 = .ok (.invokevirtual 71, 3) := by decide +kernel
theorem ddX5_remove_45 : decode cX5_remove 45 = .ok (.ifCond .eq 5, 3) := by decide +kernel
theorem ddX5_remove_48 : decode cX5_remove 48 = .ok (.iconst 0, 1) := by decide +kernel
theorem ddX5_remove_49 : decode cX5_remove 49 = .ok (.ireturn, 1) := by decide +kernel
theorem ddX5_remove_50 : decode cX5_remove 50 = .ok (.aload_n 0, 1) := by decide +kernel
theorem ddX5_remove_51 : decode cX5_remove 51 = .ok (.iload_n 1, 1) := by decide +kernel
theorem ddX5_remove_52 : decode cX5_remove 52 = .ok (.iload_n 2, 1) := by decide +kernel
theorem ddX5_remove_53 : decode cX5_remove 53 = .ok (.invokevirtual 67, 3) := by decide +kernel
theorem ddX5_remove_56 : decode cX5_remove 56 = .ok (.istore_n 3, 1) := by decide +kernel
theorem ddX5_remove_57 : decode cX5_remove 57 = .ok (.aload_n 0, 1) := by decide +kernel
theorem ddX5_remove_58 : decode cX5_remove 58 = .ok (.aload_n 0, 1) := by decide +kernel
theorem ddX5_remove_59 : decode cX5_remove 59 = .ok (.getfield 7, 3) := by decide +kernel
theorem ddX5_remove_62 : decode cX5_remove 62 = .ok (.invokevirtual 74, 3) := by decide +kernel
theorem ddX5_remove_65 : decode cX5_remove 65 = .ok (.aload_n 0, 1) := by decide +kernel
theorem ddX5_remove_66 : decode cX5_remove 66 = .ok (.iload_n 1, 1) := by decide +kernel
theorem ddX5_remove_67 : decode cX5_remove 67 = .ok (.iload_n 2, 1) := by decide +kernel
theorem ddX5_remove_68 : decode cX5_remove 68 = .ok (.iconst (-1), 1) := by decide +kernel
theorem ddX5_remove_69 : decode cX5_remove 69 = .ok (.invokevirtual 115, 3) := by decide +kernel
theorem ddX5_remove_72 : decode cX5_remove 72 = .ok (.iload_n 3, 1) := by decide +kernel
theorem ddX5_remove_73 : decode cX5_remove 73 = .ok (.ireturn, 1) := by decide +kernel
theorem ddX5_exchange_0 : decode cX5_exchange 0 = .ok (.aload_n 0, 1) := by decide +kernel
theorem ddX5_exchange_1 : decode cX5_exchange 1 = .ok (.aload_n 0, 1) := by decide +kernel
theorem ddX5_exchange_2 : decode cX5_exchange 2 = .ok (.iload_n 1, 1) := by decide +kernel
theorem ddX5_exchange_3 : decode cX5_exchange 3 = .ok (.iload_n 2, 1) := by decide +kernel
theorem ddX5_exchange_4 : decode cX5_exchange 4 = .ok (.invokevirtual 108, 3) := by decide +kernel
theorem ddX5_exchange_7 : decode cX5_exchange 7 = .ok (.ifCond .eq 13, 3) := by decide +kernel
theorem ddX5_exchange_10 : decode cX5_exchange 10 = .ok (.aload_n 0, 1) := by decide +kernel
theorem ddX5_exchange_11 : decode cX5_exchange 11 = .ok (.iload_n 3, 1) := by decide +kernel
theorem ddX5_exchange_12 : decode cX5_exchange 12 = .ok (.iload 4, 2) := by decide +kernel
theorem ddX5_exchange_14 : decode cX5_exchange 14 = .ok (.invokevirtual 108, 3) := by decide +kernel
theorem ddX5_exchange_17 : decode cX5_exchange 17 = .ok (.ifCond .ne 7, 3) := by decide +kernel
theorem ddX5_exchange_20 : decode cX5_exchange 20 = .ok (.iconst 1, 1) := by decide +kernel
theorem ddX5_exchange_21 : decode cX5_exchange 21 = .ok (.goto 44, 3) := by decide +kernel
theorem ddX5_exchange_24 : decode cX5_exchange 24 = .ok (.iload_n 1, 1) := by decide +kernel
theorem ddX5_exchange_25 : decode cX5_exchange 25 = .ok (.iload_n 3, 1) := by decide +kernel
theorem ddX5_exchange_26 : decode cX5_exchange 26 = .ok (.if_icmp .ne 13, 3) := by decide +kernel
theorem ddX5_exchange_29 : decode cX5_exchange 29 = .ok (.iload_n 2, 1) := by decide +kernel
theorem ddX5_exchange_30 : decode cX5_exchange 30 = .ok (.iload 4, 2) := by decide +kernel
theorem ddX5_exchange_32 : decode cX5_exchange 32 = .ok (.if_icmp .ne 7, 3) := by decide +kernel
theorem ddX5_exchange_35 : decode cX5_exchange 35 = .ok (.iconst 2, 1) := by decide +kernel
theorem ddX5_exchange_36 : decode cX5_exchange 36 = .ok (.goto 29, 3) := by decide +kernel
theorem ddX5_exchange_39 : decode cX5_exchange 39 = .ok (.iload_n 2, 1) := by decide +kernel
theorem ddX5_exchange_40 : decode cX5_exchange 40 = .ok (.aload_n 0, 1) := by decide +kernel
theorem ddX5_exchange_41 : decode cX5_exchange 41 = .ok (.getfield 7, 3) := by decide +kernel
theorem ddX5_exchange_44 : decode cX5_exchange 44 = .ok (.iconst 2, 1) := by decide +kernel
theorem ddX5_exchange_45 : decode cX5_exchange 45 = .ok (.iaload, 1) := by decide +kernel
theorem ddX5_exchange_46 : decode cX5_exchange 46 = .ok (.if_icmp .lt 14, 3) := by decide +kernel
theorem ddX5_exchange_49 : decode cX5_exchange 49 = .ok (.iload 4, 2) := by decide +kernel
theorem ddX5_exchange_51 : decode cX5_exchange 51 = .ok (.aload_n 0, 1) := by decide +kernel
theorem ddX5_exchange_52 : decode cX5_exchange 52 = .ok (.getfield 7, 3) := by decide +kernel
theorem ddX5_exchange_55 : decode cX5_exchange 55 = .ok (.iconst 2, 1) := by decide +kernel
theorem ddX5_exchange_56 : decode cX5_exchange 56 = .ok (.iaload, 1) := by decide +kernel
theorem ddX5_exchange_57 : decode cX5_exchange 57 = .ok (.if_icmp .ge 7, 3) := by decide +kernel
theorem ddX5_exchange_60 : decode cX5_exchange 60 = .ok (.iconst 3, 1) := by decide +kernel
theorem ddX5_exchange_61 : decode cX5_exchange 61 = .ok (.goto 4, 3) := by decide +kernel
theorem ddX5_exchange_64 : decode cX5_exchange 64 = .ok (.iconst 0, 1) := by decide +kernel
theorem ddX5_exchange_65 : decode cX5_exchange 65 = .ok (.invokevirtual 71, 3) := by decide +kernel
theorem ddX5_exchange_68 : decode cX5_exchange 68 = .ok (.ifCond .eq 5, 3) := by decide +kernel
theorem ddX5_exchange_71 : decode cX5_exchange 71 = .ok (.iconst 0, 1) := by decide +kernel
theorem ddX5_exchange_72 : decode cX5_exchange 72 = .ok (.ireturn, 1) := by decide +kernel
theorem ddX5_exchange_73 : decode cX5_exchange 73 = .ok (.aload_n 0, 1) := by decide +kernel
theorem ddX5_exchange_74 : decode cX5_exchange 74 = .ok (.iload_n 1, 1) := by decide +kernel
theorem ddX5_exchange_75 : decode cX5_exchange 75 = .ok (.iload_n 2, 1) := by decide +kernel
theorem ddX5_exchange_76 : decode cX5_exchange 76 = .ok (.invokevirtual 67, 3) := by decide +kernel
theorem ddX5_exchange_79 : decode cX5_exchange 79 = .ok (.istore 5, 2) := by decide +kernel
theorem ddX5_exchange_81 : decode cX5_exchange 81 = .ok (.aload_n 0, 1) := by decide +kernel
theorem ddX5_exchange_82 : decode cX5_exchange 82 = .ok (.iload_n 3, 1) := by decide +kernel
theorem ddX5_exchange_83 : decode cX5_exchange 83 = .ok (.iload 4, 2) := by decide +kernel
theorem ddX5_exchange_85 : decode cX5_exchange 85 = .ok (.invokevirtual 67, 3) := by decide +kernel
theorem ddX5_exchange_88 : decode cX5_exchange 88 = .ok (.istore 6, 2) := by decide +kernel
theorem ddX5_exchange_90 : decode cX5_exchange 90 = .ok (.aload_n 0, 1) := by decide +kernel
theorem ddX5_exchange_91 : decode cX5_exchange 91 = .ok (.iload 5, 2) := by decide +kernel
theorem ddX5_exchange_93 : decode cX5_exchange 93 = .ok (.ifCond .lt 8, 3) := by decide +kernel
theorem ddX5_exchange_96 : decode cX5_exchange 96 = .ok (.iload 6, 2) := by decide +kernel
theorem ddX5_exchange_98 : decode cX5_exchange 98 = .ok (.ifCond .ge 7, 3) := by decide +kernel
theorem ddX5_exchange_101 : decode cX5_exchange 101 = .ok (.iconst 4, 1) := by decide +kernel
theorem ddX5_exchange_102 : decode cX5_exchange 102 = .ok (.goto 4, 3) := by decide +kernel
theorem ddX5_exchange_105 : decode cX5_exchange 105 = .ok (.iconst 0, 1) := by decide +kernel
theorem ddX5_exchange_106 : decode cX5_exchange 106 = .ok (.invokevirtual 71, 3) := by decide +kernel
theorem ddX5_exchange_109 : decode cX5_exchange 109 = .ok (.ifCond .eq 5, 3) := by decide +kernel
theorem ddX5_exchange_112 : decode cX5_exchange 112 = .ok (.iconst 0, 1) := by decide +kernel
theorem ddX5_exchange_113 : decode cX5_exchange 113 = .ok (.ireturn, 1) := by decide +kernel
theorem ddX5_exchange_114 : decode cX5_exchange 114 = .ok (.aload_n 0, 1) := by decide +kernel
theorem ddX5_exchange_115 : decode cX5_exchange 115 = .ok (.iload_n 1, 1) := by decide +kernel
theorem ddX5_exchange_116 : decode cX5_exchange 116 = .ok (.iload_n 2, 1) := by decide +kernel
theorem ddX5_exchange_117 : decode cX5_exchange 117 = .ok (.iconst (-1), 1) := by decide +kernel
theorem ddX5_exchange_118 : decode cX5_exchange 118 = .ok (.invokevirtual 115, 3) := by decide +kernel
theorem ddX5_exchange_121 : decode cX5_exchange 121 = .ok (.aload_n 0, 1) := by decide +kernel
theorem ddX5_exchange_122 : decode cX5_exchange 122 = .ok (.iload_n 3, 1) := by decide +kernel
theorem ddX5_exchange_123 : decode cX5_exchange 123 = .ok (.iload 4, 2) := by decide +kernel
theorem ddX5_exchange_125 : decode cX5_exchange 125 = .ok (.iconst (-1), 1) := by decide +kernel
theorem ddX5_exchange_126 : decode cX5_exchange 126 = .ok (.invokevirtual 115, 3) := by decide +kernel
theorem ddX5_exchange_129 : decode cX5_exchange 129 = .ok (.aload_n 0, 1) := by decide +kernel
theorem ddX5_exchange_130 : decode cX5_exchange 130 = .ok (.iload_n 1, 1) := by decide +kernel
theorem ddX5_exchange_131 : decode cX5_exchange 131 = .ok (.iload_n 2, 1) := by decide +kernel
theorem ddX5_exchange_132 : decode cX5_exchange 132 = .ok (.iload 6, 2) := by decide +kernel
theorem ddX5_exchange_134 : decode cX5_exchange 134 = .ok (.iconst 5, 1) := by decide +kernel
theorem ddX5_exchange_135 : decode cX5_exchange 135 = .ok (.invokevirtual 111, 3) := by decide +kernel
theorem ddX5_exchange_138 : decode cX5_exchange 138 = .ok (.istore 7, 2) := by decide +kernel
theorem ddX5_exchange_140 : decode cX5_exchange 140 = .ok (.iload 7, 2) := by decide +kernel
theorem ddX5_exchange_142 : decode cX5_exchange 142 = .ok (.ifCond .ne 23, 3) := by decide +kernel
theorem ddX5_exchange_145 : decode cX5_exchange 145 = .ok (.aload_n 0, 1) := by decide +kernel
theorem ddX5_exchange_146 : decode cX5_exchange 146 = .ok (.iload_n 1, 1) := by decide +kernel
theorem ddX5_exchange_147 : decode cX5_exchange 147 = .ok (.iload_n 2, 1) := by decide +kernel
theorem ddX5_exchange_148 : decode cX5_exchange 148 = .ok (.iload 6, 2) := by decide +kernel
theorem ddX5_exchange_150 : decode cX5_exchange 150 = .ok (.invokevirtual 115, 3) := by decide +kernel
theorem ddX5_exchange_153 : decode cX5_exchange 153 = .ok (.aload_n 0, 1) := by decide +kernel
theorem ddX5_exchange_154 : decode cX5_exchange 154 = .ok (.iload_n 3, 1) := by decide +kernel
theorem ddX5_exchange_155 : decode cX5_exchange 155 = .ok (.iload 4, 2) := by decide +kernel
theorem ddX5_exchange_157 : decode cX5_exchange 157 = .ok (.iload 5, 2) := by decide +kernel
theorem ddX5_exchange_159 : decode cX5_exchange 159 = .ok (.iconst 5, 1) := by decide +kernel
theorem ddX5_exchange_160 : decode cX5_exchange 160 = .ok (.invokevirtual 111, 3) := by decide +kernel
theorem ddX5_exchange_163 : decode cX5_exchange 163 = .ok (.istore 7, 2) := by decide +kernel
theorem ddX5_exchange_165 : decode cX5_exchange 165 = .ok (.aload_n 0, 1) := by decide +kernel
theorem ddX5_exchange_166 : decode cX5_exchange 166 = .ok (.iload_n 1, 1) := by decide +kernel
theorem ddX5_exchange_167 : decode cX5_exchange 167 = .ok (.iload_n 2, 1) := by decide +kernel
theorem ddX5_exchange_168 : decode cX5_exchange 168 = .ok (.iload 5, 2) := by decide +kernel
theorem ddX5_exchange_170 : decode cX5_exchange 170 = .ok (.invokevirtual 115, 3) := by decide +kernel
theorem ddX5_exchange_173 : decode cX5_exchange 173 = .ok (.aload_n 0, 1) := by decide +kernel
theorem ddX5_exchange_174 : decode cX5_exchange 174 = .ok (.iload_n 3, 1) := by decide +kernel
theorem ddX5_exchange_175 : decode cX5_exchange 175 = .ok (.iload 4, 2) := by decide +kernel
theorem ddX5_exchange_177 : decode cX5_exchange 177 = .ok (.iload 6, 2) := by decide +kernel
theorem ddX5_exchange_179 : decode cX5_exchange 179 = .ok (.invokevirtual 115, 3) := by decide +kernel
theorem ddX5_exchange_182 : decode cX5_exchange 182 = .ok (.iload 7, 2) := by decide +kernel
theorem ddX5_exchange_184 : decode cX5_exchange 184 = .ok (.ifCond .eq 5, 3) := by decide +kernel
theorem ddX5_exchange_187 : decode cX5_exchange 187 = .ok (.iconst 0, 1) := by decide +kernel
theorem ddX5_exchange_188 : decode cX5_exchange 188 = .ok (.ireturn, 1) := by decide +kernel
theorem ddX5_exchange_189 : decode cX5_exchange 189 = .ok (.aload_n 0, 1) := by decide +kernel
theorem ddX5_exchange_190 : decode cX5_exchange 190 = .ok (.aload_n 0, 1) := by decide +kernel
theorem ddX5_exchange_191 : decode cX5_exchange 191 = .ok (.getfield 7, 3) := by decide +kernel
theorem ddX5_exchange_194 : decode cX5_exchange 194 = .ok (.invokevirtual 74, 3) := by decide +kernel
theorem ddX5_exchange_197 : decode cX5_exchange 197 = .ok (.aload_n 0, 1) := by decide +kernel
theorem ddX5_exchange_198 : decode cX5_exchange 198 = .ok (.iload_n 1, 1) := by decide +kernel
theorem ddX5_exchange_199 : decode cX5_exchange 199 = .ok (.iload_n 2, 1) := by decide +kernel
theorem ddX5_exchange_200 : decode cX5_exchange 200 = .ok (.iload 6, 2) := by decide +kernel
theorem ddX5_exchange_202 : decode cX5_exchange 202 = .ok (.invokevirtual 115, 3) := by decide +kernel
theorem ddX5_exchange_205 : decode cX5_exchange 205 = .ok (.aload_n 0, 1) := by decide +kernel
theorem ddX5_exchange_206 : decode cX5_exchange 206 = .ok (.iload_n 3, 1) := by decide +kernel
theorem ddX5_exchange_207 : decode cX5_exchange 207 = .ok (.iload 4, 2) := by decide +kernel
theorem ddX5_exchange_209 : decode cX5_exchange 209 = .ok (.iload 5, 2) := by decide +kernel
theorem ddX5_exchange_211 : decode cX5_exchange 211 = .ok (.invokevirtual 115, 3) := by decide +kernel
theorem ddX5_exchange_214 : decode cX5_exchange 214 = .ok (.iload 6, 2) := by decide +kernel
theorem ddX5_exchange_216 : decode cX5_exchange 216 = .ok (.ireturn, 1) := by decide +kernel
theorem ddX5_nextGate_0 : decode cX5_nextGate 0 = .ok (.iconst (-1), 1) := by decide +kernel
theorem ddX5_nextGate_1 : decode cX5_nextGate 1 = .ok (.istore_n 3, 1) := by decide +kernel
theorem ddX5_nextGate_2 : decode cX5_nextGate 2 = .ok (.iconst 0, 1) := by decide +kernel
theorem ddX5_nextGate_3 : decode cX5_nextGate 3 = .ok (.istore 4, 2) := by decide +kernel
theorem ddX5_nextGate_5 : decode cX5_nextGate 5 = .ok (.iload 4, 2) := by decide +kernel
theorem ddX5_nextGate_7 : decode cX5_nextGate 7 = .ok (.aload_n 0, 1) := by decide +kernel
theorem ddX5_nextGate_8 : decode cX5_nextGate 8 = .ok (.getfield 7, 3) := by decide +kernel
theorem ddX5_nextGate_11 : decode cX5_nextGate 11 = .ok (.iconst 0, 1) := by decide +kernel
theorem ddX5_nextGate_12 : decode cX5_nextGate 12 = .ok (.iaload, 1) := by decide +kernel
theorem ddX5_nextGate_13 : decode cX5_nextGate 13 = .ok (.if_icmp .ge 55, 3) := by decide +kernel
theorem ddX5_nextGate_16 : decode cX5_nextGate 16 = .ok (.aload_n 0, 1) := by decide +kernel
theorem ddX5_nextGate_17 : decode cX5_nextGate 17 = .ok (.iload 4, 2) := by decide +kernel
theorem ddX5_nextGate_19 : decode cX5_nextGate 19 = .ok (.iload_n 1, 1) := by decide +kernel
theorem ddX5_nextGate_20 : decode cX5_nextGate 20 = .ok (.invokevirtual 67, 3) := by decide +kernel
theorem ddX5_nextGate_23 : decode cX5_nextGate 23 = .ok (.ifCond .ge 39, 3) := by decide +kernel
theorem ddX5_nextGate_26 : decode cX5_nextGate 26 = .ok (.iload_n 2, 1) := by decide +kernel
theorem ddX5_nextGate_27 : decode cX5_nextGate 27 = .ok (.iload 4, 2) := by decide +kernel
theorem ddX5_nextGate_29 : decode cX5_nextGate 29 = .ok (.ishr, 1) := by decide +kernel
theorem ddX5_nextGate_30 : decode cX5_nextGate 30 = .ok (.iconst 1, 1) := by decide +kernel
theorem ddX5_nextGate_31 : decode cX5_nextGate 31 = .ok (.iand, 1) := by decide +kernel
theorem ddX5_nextGate_32 : decode cX5_nextGate 32 = .ok (.ifCond .ne 30, 3) := by decide +kernel
theorem ddX5_nextGate_35 : decode cX5_nextGate 35 = .ok (.iload_n 3, 1) := by decide +kernel
theorem ddX5_nextGate_36 : decode cX5_nextGate 36 = .ok (.ifCond .lt 23, 3) := by decide +kernel
theorem ddX5_nextGate_39 : decode cX5_nextGate 39 = .ok (.aload_n 0, 1) := by decide +kernel
theorem ddX5_nextGate_40 : decode cX5_nextGate 40 = .ok (.getfield 7, 3) := by decide +kernel
theorem ddX5_nextGate_43 : decode cX5_nextGate 43 = .ok (.iconst 4, 1) := by decide +kernel
theorem ddX5_nextGate_44 : decode cX5_nextGate 44 = .ok (.iload 4, 2) := by decide +kernel
theorem ddX5_nextGate_46 : decode cX5_nextGate 46 = .ok (.iadd, 1) := by decide +kernel
theorem ddX5_nextGate_47 : decode cX5_nextGate 47 = .ok (.iaload, 1) := by decide +kernel
theorem ddX5_nextGate_48 : decode cX5_nextGate 48 = .ok (.aload_n 0, 1) := by decide +kernel
theorem ddX5_nextGate_49 : decode cX5_nextGate 49 = .ok (.getfield 7, 3) := by decide +kernel
theorem ddX5_nextGate_52 : decode cX5_nextGate 52 = .ok (.iconst 4, 1) := by decide +kernel
theorem ddX5_nextGate_53 : decode cX5_nextGate 53 = .ok (.iload_n 3, 1) := by decide +kernel
theorem ddX5_nextGate_54 : decode cX5_nextGate 54 = .ok (.iadd, 1) := by decide +kernel
theorem ddX5_nextGate_55 : decode cX5_nextGate 55 = .ok (.iaload, 1) := by decide +kernel
theorem ddX5_nextGate_56 : decode cX5_nextGate 56 = .ok (.if_icmp .le 6, 3) := by decide +kernel
theorem ddX5_nextGate_59 : decode cX5_nextGate 59 = .ok (.iload 4, 2) := by decide +kernel
theorem ddX5_nextGate_61 : decode cX5_nextGate 61 = .ok (.istore_n 3, 1) := by decide +kernel
theorem ddX5_nextGate_62 : decode cX5_nextGate 62 = .ok (.iinc 4 1, 3) := by decide +kernel
theorem ddX5_nextGate_65 : decode cX5_nextGate 65 = .ok (.goto (-60), 3) := by decide +kernel
theorem ddX5_nextGate_68 : decode cX5_nextGate 68 = .ok (.iload_n 3, 1) := by decide +kernel
theorem ddX5_nextGate_69 : decode cX5_nextGate 69 = .ok (.ireturn, 1) := by decide +kernel
theorem ddX5_isAhead_0 : decode cX5_isAhead 0 = .ok (.aload_n 0, 1) := by decide +kernel
theorem ddX5_isAhead_1 : decode cX5_isAhead 1 = .ok (.iload_n 1, 1) := by decide +kernel
theorem ddX5_isAhead_2 : decode cX5_isAhead 2 = .ok (.invokevirtual 119, 3) := by decide +kernel
theorem ddX5_isAhead_5 : decode cX5_isAhead 5 = .ok (.aload_n 0, 1) := by decide +kernel
theorem ddX5_isAhead_6 : decode cX5_isAhead 6 = .ok (.iload_n 2, 1) := by decide +kernel
theorem ddX5_isAhead_7 : decode cX5_isAhead 7 = .ok (.invokevirtual 119, 3) := by decide +kernel
theorem ddX5_isAhead_10 : decode cX5_isAhead 10 = .ok (.isub, 1) := by decide +kernel
theorem ddX5_isAhead_11 : decode cX5_isAhead 11 = .ok (.istore_n 3, 1) := by decide +kernel
theorem ddX5_isAhead_12 : decode cX5_isAhead 12 = .ok (.iload_n 3, 1) := by decide +kernel
theorem ddX5_isAhead_13 : decode cX5_isAhead 13 = .ok (.ifCond .eq 13, 3) := by decide +kernel
theorem ddX5_isAhead_16 : decode cX5_isAhead 16 = .ok (.iload_n 3, 1) := by decide +kernel
theorem ddX5_isAhead_17 : decode cX5_isAhead 17 = .ok (.ifCond .ge 7, 3) := by decide +kernel
theorem ddX5_isAhead_20 : decode cX5_isAhead 20 = .ok (.iconst 1, 1) := by decide +kernel
theorem ddX5_isAhead_21 : decode cX5_isAhead 21 = .ok (.goto 4, 3) := by decide +kernel
theorem ddX5_isAhead_24 : decode cX5_isAhead 24 = .ok (.iconst 0, 1) := by decide +kernel
theorem ddX5_isAhead_25 : decode cX5_isAhead 25 = .ok (.ireturn, 1) := by decide +kernel
theorem ddX5_isAhead_26 : decode cX5_isAhead 26 = .ok (.aload_n 0, 1) := by decide +kernel
theorem ddX5_isAhead_27 : decode cX5_isAhead 27 = .ok (.iload_n 1, 1) := by decide +kernel
theorem ddX5_isAhead_28 : decode cX5_isAhead 28 = .ok (.invokevirtual 84, 3) := by decide +kernel
theorem ddX5_isAhead_31 : decode cX5_isAhead 31 = .ok (.aload_n 0, 1) := by decide +kernel
theorem ddX5_isAhead_32 : decode cX5_isAhead 32 = .ok (.iload_n 2, 1) := by decide +kernel
theorem ddX5_isAhead_33 : decode cX5_isAhead 33 = .ok (.invokevirtual 84, 3) := by decide +kernel
theorem ddX5_isAhead_36 : decode cX5_isAhead 36 = .ok (.if_icmp .lt 21, 3) := by decide +kernel
theorem ddX5_isAhead_39 : decode cX5_isAhead 39 = .ok (.aload_n 0, 1) := by decide +kernel
theorem ddX5_isAhead_40 : decode cX5_isAhead 40 = .ok (.iload_n 1, 1) := by decide +kernel
theorem ddX5_isAhead_41 : decode cX5_isAhead 41 = .ok (.invokevirtual 84, 3) := by decide +kernel
theorem ddX5_isAhead_44 : decode cX5_isAhead 44 = .ok (.aload_n 0, 1) := by decide +kernel
theorem ddX5_isAhead_45 : decode cX5_isAhead 45 = .ok (.iload_n 2, 1) := by decide +kernel
theorem ddX5_isAhead_46 : decode cX5_isAhead 46 = .ok (.invokevirtual 84, 3) := by decide +kernel
theorem ddX5_isAhead_49 : decode cX5_isAhead 49 = .ok (.if_icmp .ne 12, 3) := by decide +kernel
theorem ddX5_isAhead_52 : decode cX5_isAhead 52 = .ok (.iload_n 1, 1) := by decide +kernel
theorem ddX5_isAhead_53 : decode cX5_isAhead 53 = .ok (.iload_n 2, 1) := by decide +kernel
theorem ddX5_isAhead_54 : decode cX5_isAhead 54 = .ok (.if_icmp .ge 7, 3) := by decide +kernel
theorem ddX5_isAhead_57 : decode cX5_isAhead 57 = .ok (.iconst 1, 1) := by decide +kernel
theorem ddX5_isAhead_58 : decode cX5_isAhead 58 = .ok (.goto 4, 3) := by decide +kernel
theorem ddX5_isAhead_61 : decode cX5_isAhead 61 = .ok (.iconst 0, 1) := by decide +kernel
theorem ddX5_isAhead_62 : decode cX5_isAhead 62 = .ok (.ireturn, 1) := by decide +kernel
theorem ddX5_chosen_0 : decode cX5_chosen 0 = .ok (.iconst (-1), 1) := by decide +kernel
theorem ddX5_chosen_1 : decode cX5_chosen 1 = .ok (.istore_n 3, 1) := by decide +kernel
theorem ddX5_chosen_2 : decode cX5_chosen 2 = .ok (.iconst 0, 1) := by decide +kernel
theorem ddX5_chosen_3 : decode cX5_chosen 3 = .ok (.istore 4, 2) := by decide +kernel
theorem ddX5_chosen_5 : decode cX5_chosen 5 = .ok (.iload 4, 2) := by decide +kernel
theorem ddX5_chosen_7 : decode cX5_chosen 7 = .ok (.aload_n 0, 1) := by decide +kernel
theorem ddX5_chosen_8 : decode cX5_chosen 8 = .ok (.getfield 7, 3) := by decide +kernel
theorem ddX5_chosen_11 : decode cX5_chosen 11 = .ok (.iconst 1, 1) := by decide +kernel
theorem ddX5_chosen_12 : decode cX5_chosen 12 = .ok (.iaload, 1) := by decide +kernel
theorem ddX5_chosen_13 : decode cX5_chosen 13 = .ok (.if_icmp .ge 37, 3) := by decide +kernel
theorem ddX5_chosen_16 : decode cX5_chosen 16 = .ok (.aload_n 0, 1) := by decide +kernel
theorem ddX5_chosen_17 : decode cX5_chosen 17 = .ok (.iload_n 1, 1) := by decide +kernel
theorem ddX5_chosen_18 : decode cX5_chosen 18 = .ok (.iload_n 2, 1) := by decide +kernel
theorem ddX5_chosen_19 : decode cX5_chosen 19 = .ok (.iload 4, 2) := by decide +kernel
theorem ddX5_chosen_21 : decode cX5_chosen 21 = .ok (.invokevirtual 98, 3) := by decide +kernel
theorem ddX5_chosen_24 : decode cX5_chosen 24 = .ok (.ifCond .ne 20, 3) := by decide +kernel
theorem ddX5_chosen_27 : decode cX5_chosen 27 = .ok (.iload_n 3, 1) := by decide +kernel
theorem ddX5_chosen_28 : decode cX5_chosen 28 = .ok (.ifCond .lt 13, 3) := by decide +kernel
theorem ddX5_chosen_31 : decode cX5_chosen 31 = .ok (.aload_n 0, 1) := by decide +kernel
theorem ddX5_chosen_32 : decode cX5_chosen 32 = .ok (.iload 4, 2) := by decide +kernel
theorem ddX5_chosen_34 : decode cX5_chosen 34 = .ok (.iload_n 3, 1) := by decide +kernel
theorem ddX5_chosen_35 : decode cX5_chosen 35 = .ok (.invokevirtual 122, 3) := by decide +kernel
theorem ddX5_chosen_38 : decode cX5_chosen 38 = .ok (.ifCond .eq 6, 3) := by decide +kernel
theorem ddX5_chosen_41 : decode cX5_chosen 41 = .ok (.iload 4, 2) := by decide +kernel
theorem ddX5_chosen_43 : decode cX5_chosen 43 = .ok (.istore_n 3, 1) := by decide +kernel
theorem ddX5_chosen_44 : decode cX5_chosen 44 = .ok (.iinc 4 1, 3) := by decide +kernel
theorem ddX5_chosen_47 : decode cX5_chosen 47 = .ok (.goto (-42), 3) := by decide +kernel
theorem ddX5_chosen_50 : decode cX5_chosen 50 = .ok (.iload_n 3, 1) := by decide +kernel
theorem ddX5_chosen_51 : decode cX5_chosen 51 = .ok (.ireturn, 1) := by decide +kernel
theorem ddX5_fillSlot_0 : decode cX5_fillSlot 0 = .ok (.aload_n 0, 1) := by decide +kernel
theorem ddX5_fillSlot_1 : decode cX5_fillSlot 1 = .ok (.iload_n 1, 1) := by decide +kernel
theorem ddX5_fillSlot_2 : decode cX5_fillSlot 2 = .ok (.invokestatic 64, 3) := by decide +kernel
theorem ddX5_fillSlot_5 : decode cX5_fillSlot 5 = .ok (.ifCond .ne 7, 3) := by decide +kernel
theorem ddX5_fillSlot_8 : decode cX5_fillSlot 8 = .ok (.iconst 1, 1) := by decide +kernel
theorem ddX5_fillSlot_9 : decode cX5_fillSlot 9 = .ok (.goto 18, 3) := by decide +kernel
theorem ddX5_fillSlot_12 : decode cX5_fillSlot 12 = .ok (.iload_n 1, 1) := by decide +kernel
theorem ddX5_fillSlot_13 : decode cX5_fillSlot 13 = .ok (.aload_n 0, 1) := by decide +kernel
theorem ddX5_fillSlot_14 : decode cX5_fillSlot 14 = .ok (.getfield 7, 3) := by decide +kernel
theorem ddX5_fillSlot_17 : decode cX5_fillSlot 17 = .ok (.iconst 2, 1) := by decide +kernel
theorem ddX5_fillSlot_18 : decode cX5_fillSlot 18 = .ok (.iaload, 1) := by decide +kernel
theorem ddX5_fillSlot_19 : decode cX5_fillSlot 19 = .ok (.if_icmp .ge 7, 3) := by decide +kernel
theorem ddX5_fillSlot_22 : decode cX5_fillSlot 22 = .ok (.iconst 2, 1) := by decide +kernel
theorem ddX5_fillSlot_23 : decode cX5_fillSlot 23 = .ok (.goto 4, 3) := by decide +kernel
theorem ddX5_fillSlot_26 : decode cX5_fillSlot 26 = .ok (.iconst 0, 1) := by decide +kernel
theorem ddX5_fillSlot_27 : decode cX5_fillSlot 27 = .ok (.invokevirtual 71, 3) := by decide +kernel
theorem ddX5_fillSlot_30 : decode cX5_fillSlot 30 = .ok (.ifCond .eq 5, 3) := by decide +kernel
theorem ddX5_fillSlot_33 : decode cX5_fillSlot 33 = .ok (.iconst 0, 1) := by decide +kernel
theorem ddX5_fillSlot_34 : decode cX5_fillSlot 34 = .ok (.ireturn, 1) := by decide +kernel
theorem ddX5_fillSlot_35 : decode cX5_fillSlot 35 = .ok (.aload_n 0, 1) := by decide +kernel
theorem ddX5_fillSlot_36 : decode cX5_fillSlot 36 = .ok (.aload_n 0, 1) := by decide +kernel
theorem ddX5_fillSlot_37 : decode cX5_fillSlot 37 = .ok (.getfield 7, 3) := by decide +kernel
theorem ddX5_fillSlot_40 : decode cX5_fillSlot 40 = .ok (.invokevirtual 74, 3) := by decide +kernel
theorem ddX5_fillSlot_43 : decode cX5_fillSlot 43 = .ok (.iconst 0, 1) := by decide +kernel
theorem ddX5_fillSlot_44 : decode cX5_fillSlot 44 = .ok (.istore_n 2, 1) := by decide +kernel
theorem ddX5_fillSlot_45 : decode cX5_fillSlot 45 = .ok (.iconst 0, 1) := by decide +kernel
theorem ddX5_fillSlot_46 : decode cX5_fillSlot 46 = .ok (.istore_n 3, 1) := by decide +kernel
theorem ddX5_fillSlot_47 : decode cX5_fillSlot 47 = .ok (.aload_n 0, 1) := by decide +kernel
theorem ddX5_fillSlot_48 : decode cX5_fillSlot 48 = .ok (.iload_n 1, 1) := by decide +kernel
theorem ddX5_fillSlot_49 : decode cX5_fillSlot 49 = .ok (.iload_n 2, 1) := by decide +kernel
theorem ddX5_fillSlot_50 : decode cX5_fillSlot 50 = .ok (.invokevirtual 125, 3) := by decide +kernel
theorem ddX5_fillSlot_53 : decode cX5_fillSlot 53 = .ok (.istore 4, 2) := by decide +kernel
theorem ddX5_fillSlot_55 : decode cX5_fillSlot 55 = .ok (.iload 4, 2) := by decide +kernel
theorem ddX5_fillSlot_57 : decode cX5_fillSlot 57 = .ok (.ifCond .lt 47, 3) := by decide +kernel
theorem ddX5_fillSlot_60 : decode cX5_fillSlot 60 = .ok (.aload_n 0, 1) := by decide +kernel
theorem ddX5_fillSlot_61 : decode cX5_fillSlot 61 = .ok (.iload 4, 2) := by decide +kernel
theorem ddX5_fillSlot_63 : decode cX5_fillSlot 63 = .ok (.iload_n 1, 1) := by decide +kernel
theorem ddX5_fillSlot_64 : decode cX5_fillSlot 64 = .ok (.invokevirtual 128, 3) := by decide +kernel
theorem ddX5_fillSlot_67 : decode cX5_fillSlot 67 = .ok (.istore 5, 2) := by decide +kernel
theorem ddX5_fillSlot_69 : decode cX5_fillSlot 69 = .ok (.iload 5, 2) := by decide +kernel
theorem ddX5_fillSlot_71 : decode cX5_fillSlot 71 = .ok (.ifCond .lt 15, 3) := by decide +kernel
theorem ddX5_fillSlot_74 : decode cX5_fillSlot 74 = .ok (.aload_n 0, 1) := by decide +kernel
theorem ddX5_fillSlot_75 : decode cX5_fillSlot 75 = .ok (.iload 4, 2) := by decide +kernel
theorem ddX5_fillSlot_77 : decode cX5_fillSlot 77 = .ok (.iload_n 1, 1) := by decide +kernel
theorem ddX5_fillSlot_78 : decode cX5_fillSlot 78 = .ok (.iload 5, 2) := by decide +kernel
theorem ddX5_fillSlot_80 : decode cX5_fillSlot 80 = .ok (.invokevirtual 115, 3) := by decide +kernel
theorem ddX5_fillSlot_83 : decode cX5_fillSlot 83 = .ok (.iinc 3 1, 3) := by decide +kernel
theorem ddX5_fillSlot_86 : decode cX5_fillSlot 86 = .ok (.iload_n 2, 1) := by decide +kernel
theorem ddX5_fillSlot_87 : decode cX5_fillSlot 87 = .ok (.iconst 1, 1) := by decide +kernel
theorem ddX5_fillSlot_88 : decode cX5_fillSlot 88 = .ok (.iload 4, 2) := by decide +kernel
theorem ddX5_fillSlot_90 : decode cX5_fillSlot 90 = .ok (.ishl, 1) := by decide +kernel
theorem ddX5_fillSlot_91 : decode cX5_fillSlot 91 = .ok (.ior, 1) := by decide +kernel
theorem ddX5_fillSlot_92 : decode cX5_fillSlot 92 = .ok (.istore_n 2, 1) := by decide +kernel
theorem ddX5_fillSlot_93 : decode cX5_fillSlot 93 = .ok (.aload_n 0, 1) := by decide +kernel
theorem ddX5_fillSlot_94 : decode cX5_fillSlot 94 = .ok (.iload_n 1, 1) := by decide +kernel
theorem ddX5_fillSlot_95 : decode cX5_fillSlot 95 = .ok (.iload_n 2, 1) := by decide +kernel
theorem ddX5_fillSlot_96 : decode cX5_fillSlot 96 = .ok (.invokevirtual 125, 3) := by decide +kernel
theorem ddX5_fillSlot_99 : decode cX5_fillSlot 99 = .ok (.istore 4, 2) := by decide +kernel
theorem ddX5_fillSlot_101 : decode cX5_fillSlot 101 = .ok (.goto (-46), 3) := by decide +kernel
theorem ddX5_fillSlot_104 : decode cX5_fillSlot 104 = .ok (.iload_n 3, 1) := by decide +kernel
theorem ddX5_fillSlot_105 : decode cX5_fillSlot 105 = .ok (.ireturn, 1) := by decide +kernel
theorem ddX5_guardAt_0 : decode cX5_guardAt 0 = .ok (.aload_n 0, 1) := by decide +kernel
theorem ddX5_guardAt_1 : decode cX5_guardAt 1 = .ok (.aload_n 0, 1) := by decide +kernel
theorem ddX5_guardAt_2 : decode cX5_guardAt 2 = .ok (.iload_n 1, 1) := by decide +kernel
theorem ddX5_guardAt_3 : decode cX5_guardAt 3 = .ok (.iload_n 2, 1) := by decide +kernel
theorem ddX5_guardAt_4 : decode cX5_guardAt 4 = .ok (.invokevirtual 108, 3) := by decide +kernel
theorem ddX5_guardAt_7 : decode cX5_guardAt 7 = .ok (.ifCond .ne 7, 3) := by decide +kernel
theorem ddX5_guardAt_10 : decode cX5_guardAt 10 = .ok (.iconst 1, 1) := by decide +kernel
theorem ddX5_guardAt_11 : decode cX5_guardAt 11 = .ok (.goto 17, 3) := by decide +kernel
theorem ddX5_guardAt_14 : decode cX5_guardAt 14 = .ok (.aload_n 0, 1) := by decide +kernel
theorem ddX5_guardAt_15 : decode cX5_guardAt 15 = .ok (.iload_n 1, 1) := by decide +kernel
theorem ddX5_guardAt_16 : decode cX5_guardAt 16 = .ok (.iload_n 2, 1) := by decide +kernel
theorem ddX5_guardAt_17 : decode cX5_guardAt 17 = .ok (.invokevirtual 67, 3) := by decide +kernel
theorem ddX5_guardAt_20 : decode cX5_guardAt 20 = .ok (.ifCond .ge 7, 3) := by decide +kernel
theorem ddX5_guardAt_23 : decode cX5_guardAt 23 = .ok (.iconst 2, 1) := by decide +kernel
theorem ddX5_guardAt_24 : decode cX5_guardAt 24 = .ok (.goto 4, 3) := by decide +kernel
theorem ddX5_guardAt_27 : decode cX5_guardAt 27 = .ok (.iconst 0, 1) := by decide +kernel
theorem ddX5_guardAt_28 : decode cX5_guardAt 28 = .ok (.invokevirtual 71, 3) := by decide +kernel
theorem ddX5_guardAt_31 : decode cX5_guardAt 31 = .ok (.ifCond .eq 7, 3) := by decide +kernel
theorem ddX5_guardAt_34 : decode cX5_guardAt 34 = .ok (.iconst 0, 1) := by decide +kernel
theorem ddX5_guardAt_35 : decode cX5_guardAt 35 = .ok (.goto 9, 3) := by decide +kernel
theorem ddX5_guardAt_38 : decode cX5_guardAt 38 = .ok (.aload_n 0, 1) := by decide +kernel
theorem ddX5_guardAt_39 : decode cX5_guardAt 39 = .ok (.iload_n 1, 1) := by decide +kernel
theorem ddX5_guardAt_40 : decode cX5_guardAt 40 = .ok (.iload_n 2, 1) := by decide +kernel
theorem ddX5_guardAt_41 : decode cX5_guardAt 41 = .ok (.invokevirtual 67, 3) := by decide +kernel
theorem ddX5_guardAt_44 : decode cX5_guardAt 44 = .ok (.ireturn, 1) := by decide +kernel
theorem ddX5_gateOf_0 : decode cX5_gateOf 0 = .ok (.aload_n 0, 1) := by decide +kernel
theorem ddX5_gateOf_1 : decode cX5_gateOf 1 = .ok (.aload_n 0, 1) := by decide +kernel
theorem ddX5_gateOf_2 : decode cX5_gateOf 2 = .ok (.iload_n 1, 1) := by decide +kernel
theorem ddX5_gateOf_3 : decode cX5_gateOf 3 = .ok (.invokevirtual 78, 3) := by decide +kernel
theorem ddX5_gateOf_6 : decode cX5_gateOf 6 = .ok (.ifCond .eq 10, 3) := by decide +kernel
theorem ddX5_gateOf_9 : decode cX5_gateOf 9 = .ok (.iload_n 2, 1) := by decide +kernel
theorem ddX5_gateOf_10 : decode cX5_gateOf 10 = .ok (.invokestatic 64, 3) := by decide +kernel
theorem ddX5_gateOf_13 : decode cX5_gateOf 13 = .ok (.ifCond .ne 7, 3) := by decide +kernel
theorem ddX5_gateOf_16 : decode cX5_gateOf 16 = .ok (.iconst 1, 1) := by decide +kernel
theorem ddX5_gateOf_17 : decode cX5_gateOf 17 = .ok (.goto 17, 3) := by decide +kernel
theorem ddX5_gateOf_20 : decode cX5_gateOf 20 = .ok (.aload_n 0, 1) := by decide +kernel
theorem ddX5_gateOf_21 : decode cX5_gateOf 21 = .ok (.iload_n 1, 1) := by decide +kernel
theorem ddX5_gateOf_22 : decode cX5_gateOf 22 = .ok (.iload_n 2, 1) := by decide +kernel
theorem ddX5_gateOf_23 : decode cX5_gateOf 23 = .ok (.invokevirtual 95, 3) := by decide +kernel
theorem ddX5_gateOf_26 : decode cX5_gateOf 26 = .ok (.ifCond .ge 7, 3) := by decide +kernel
theorem ddX5_gateOf_29 : decode cX5_gateOf 29 = .ok (.iconst 2, 1) := by decide +kernel
theorem ddX5_gateOf_30 : decode cX5_gateOf 30 = .ok (.goto 4, 3) := by decide +kernel
theorem ddX5_gateOf_33 : decode cX5_gateOf 33 = .ok (.iconst 0, 1) := by decide +kernel
theorem ddX5_gateOf_34 : decode cX5_gateOf 34 = .ok (.invokevirtual 71, 3) := by decide +kernel
theorem ddX5_gateOf_37 : decode cX5_gateOf 37 = .ok (.ifCond .eq 7, 3) := by decide +kernel
theorem ddX5_gateOf_40 : decode cX5_gateOf 40 = .ok (.iconst 0, 1) := by decide +kernel
theorem ddX5_gateOf_41 : decode cX5_gateOf 41 = .ok (.goto 9, 3) := by decide +kernel
theorem ddX5_gateOf_44 : decode cX5_gateOf 44 = .ok (.aload_n 0, 1) := by decide +kernel
theorem ddX5_gateOf_45 : decode cX5_gateOf 45 = .ok (.iload_n 1, 1) := by decide +kernel
theorem ddX5_gateOf_46 : decode cX5_gateOf 46 = .ok (.iload_n 2, 1) := by decide +kernel
theorem ddX5_gateOf_47 : decode cX5_gateOf 47 = .ok (.invokevirtual 95, 3) := by decide +kernel
theorem ddX5_gateOf_50 : decode cX5_gateOf 50 = .ok (.ireturn, 1) := by decide +kernel
theorem ddX5_dutiesOf_0 : decode cX5_dutiesOf 0 = .ok (.aload_n 0, 1) := by decide +kernel
theorem ddX5_dutiesOf_1 : decode cX5_dutiesOf 1 = .ok (.iload_n 1, 1) := by decide +kernel
theorem ddX5_dutiesOf_2 : decode cX5_dutiesOf 2 = .ok (.invokevirtual 81, 3) := by decide +kernel
theorem ddX5_dutiesOf_5 : decode cX5_dutiesOf 5 = .ok (.ifCond .eq 7, 3) := by decide +kernel
theorem ddX5_dutiesOf_8 : decode cX5_dutiesOf 8 = .ok (.iconst 0, 1) := by decide +kernel
theorem ddX5_dutiesOf_9 : decode cX5_dutiesOf 9 = .ok (.goto 8, 3) := by decide +kernel
theorem ddX5_dutiesOf_12 : decode cX5_dutiesOf 12 = .ok (.aload_n 0, 1) := by decide +kernel
theorem ddX5_dutiesOf_13 : decode cX5_dutiesOf 13 = .ok (.iload_n 1, 1) := by decide +kernel
theorem ddX5_dutiesOf_14 : decode cX5_dutiesOf 14 = .ok (.invokevirtual 119, 3) := by decide +kernel
theorem ddX5_dutiesOf_17 : decode cX5_dutiesOf 17 = .ok (.ireturn, 1) := by decide +kernel
theorem ddX5_allDuties_0 : decode cX5_allDuties 0 = .ok (.iconst 0, 1) := by decide +kernel
theorem ddX5_allDuties_1 : decode cX5_allDuties 1 = .ok (.istore_n 1, 1) := by decide +kernel
theorem ddX5_allDuties_2 : decode cX5_allDuties 2 = .ok (.iconst 0, 1) := by decide +kernel
theorem ddX5_allDuties_3 : decode cX5_allDuties 3 = .ok (.istore_n 2, 1) := by decide +kernel
theorem ddX5_allDuties_4 : decode cX5_allDuties 4 = .ok (.iload_n 2, 1) := by decide +kernel
theorem ddX5_allDuties_5 : decode cX5_allDuties 5 = .ok (.bipush 28, 2) := by decide +kernel
theorem ddX5_allDuties_7 : decode cX5_allDuties 7 = .ok (.aload_n 0, 1) := by decide +kernel
theorem ddX5_allDuties_8 : decode cX5_allDuties 8 = .ok (.getfield 7, 3) := by decide +kernel
theorem ddX5_allDuties_11 : decode cX5_allDuties 11 = .ok (.iconst 0, 1) := by decide +kernel
theorem ddX5_allDuties_12 : decode cX5_allDuties 12 = .ok (.iaload, 1) := by decide +kernel
theorem ddX5_allDuties_13 : decode cX5_allDuties 13 = .ok (.imul, 1) := by decide +kernel
theorem ddX5_allDuties_14 : decode cX5_allDuties 14 = .ok (.if_icmp .ge 29, 3) := by decide +kernel
theorem ddX5_allDuties_17 : decode cX5_allDuties 17 = .ok (.iload_n 1, 1) := by decide +kernel
theorem ddX5_allDuties_18 : decode cX5_allDuties 18 = .ok (.aload_n 0, 1) := by decide +kernel
theorem ddX5_allDuties_19 : decode cX5_allDuties 19 = .ok (.getfield 7, 3) := by decide +kernel
theorem ddX5_allDuties_22 : decode cX5_allDuties 22 = .ok (.bipush 39, 2) := by decide +kernel
theorem ddX5_allDuties_24 : decode cX5_allDuties 24 = .ok (.iload_n 2, 1) := by decide +kernel
theorem ddX5_allDuties_25 : decode cX5_allDuties 25 = .ok (.iadd, 1) := by decide +kernel
theorem ddX5_allDuties_26 : decode cX5_allDuties 26 = .ok (.iaload, 1) := by decide +kernel
theorem ddX5_allDuties_27 : decode cX5_allDuties 27 = .ok (.ifCond .lt 7, 3) := by decide +kernel
theorem ddX5_allDuties_30 : decode cX5_allDuties 30 = .ok (.iconst 1, 1) := by decide +kernel
theorem ddX5_allDuties_31 : decode cX5_allDuties 31 = .ok (.goto 4, 3) := by decide +kernel
theorem ddX5_allDuties_34 : decode cX5_allDuties 34 = .ok (.iconst 0, 1) := by decide +kernel
theorem ddX5_allDuties_35 : decode cX5_allDuties 35 = .ok (.iadd, 1) := by decide +kernel
theorem ddX5_allDuties_36 : decode cX5_allDuties 36 = .ok (.istore_n 1, 1) := by decide +kernel
theorem ddX5_allDuties_37 : decode cX5_allDuties 37 = .ok (.iinc 2 1, 3) := by decide +kernel
theorem ddX5_allDuties_40 : decode cX5_allDuties 40 = .ok (.goto (-36), 3) := by decide +kernel
theorem ddX5_allDuties_43 : decode cX5_allDuties 43 = .ok (.iload_n 1, 1) := by decide +kernel
theorem ddX5_allDuties_44 : decode cX5_allDuties 44 = .ok (.ireturn, 1) := by decide +kernel
theorem ddX5_dutyCount_0 : decode cX5_dutyCount 0 = .ok (.aload_n 0, 1) := by decide +kernel
theorem ddX5_dutyCount_1 : decode cX5_dutyCount 1 = .ok (.iconst 0, 1) := by decide +kernel
theorem ddX5_dutyCount_2 : decode cX5_dutyCount 2 = .ok (.putfield 42, 3) := by decide +kernel
theorem ddX5_dutyCount_5 : decode cX5_dutyCount 5 = .ok (.aload_n 0, 1) := by decide +kernel
theorem ddX5_dutyCount_6 : decode cX5_dutyCount 6 = .ok (.invokevirtual 131, 3) := by decide +kernel
theorem ddX5_dutyCount_9 : decode cX5_dutyCount 9 = .ok (.ireturn, 1) := by decide +kernel
theorem ddX5_open_0 : decode cX5_open 0 = .ok (.iconst 0, 1) := by decide +kernel
theorem ddX5_open_1 : decode cX5_open 1 = .ok (.istore_n 2, 1) := by decide +kernel
theorem ddX5_open_2 : decode cX5_open 2 = .ok (.iconst 0, 1) := by decide +kernel
theorem ddX5_open_3 : decode cX5_open 3 = .ok (.istore_n 3, 1) := by decide +kernel
theorem ddX5_open_4 : decode cX5_open 4 = .ok (.iload_n 3, 1) := by decide +kernel
theorem ddX5_open_5 : decode cX5_open 5 = .ok (.aload_n 0, 1) := by decide +kernel
theorem ddX5_open_6 : decode cX5_open 6 = .ok (.getfield 7, 3) := by decide +kernel
theorem ddX5_open_9 : decode cX5_open 9 = .ok (.iconst 0, 1) := by decide +kernel
theorem ddX5_open_10 : decode cX5_open 10 = .ok (.iaload, 1) := by decide +kernel
theorem ddX5_open_11 : decode cX5_open 11 = .ok (.if_icmp .ge 26, 3) := by decide +kernel
theorem ddX5_open_14 : decode cX5_open 14 = .ok (.iload_n 2, 1) := by decide +kernel
theorem ddX5_open_15 : decode cX5_open 15 = .ok (.aload_n 0, 1) := by decide +kernel
theorem ddX5_open_16 : decode cX5_open 16 = .ok (.iload_n 3, 1) := by decide +kernel
theorem ddX5_open_17 : decode cX5_open 17 = .ok (.iload_n 1, 1) := by decide +kernel
theorem ddX5_open_18 : decode cX5_open 18 = .ok (.invokevirtual 67, 3) := by decide +kernel
theorem ddX5_open_21 : decode cX5_open 21 = .ok (.ifCond .ge 7, 3) := by decide +kernel
theorem ddX5_open_24 : decode cX5_open 24 = .ok (.iconst 1, 1) := by decide +kernel
theorem ddX5_open_25 : decode cX5_open 25 = .ok (.goto 4, 3) := by decide +kernel
theorem ddX5_open_28 : decode cX5_open 28 = .ok (.iconst 0, 1) := by decide +kernel
theorem ddX5_open_29 : decode cX5_open 29 = .ok (.iadd, 1) := by decide +kernel
theorem ddX5_open_30 : decode cX5_open 30 = .ok (.istore_n 2, 1) := by decide +kernel
theorem ddX5_open_31 : decode cX5_open 31 = .ok (.iinc 3 1, 3) := by decide +kernel
theorem ddX5_open_34 : decode cX5_open 34 = .ok (.goto (-30), 3) := by decide +kernel
theorem ddX5_open_37 : decode cX5_open 37 = .ok (.iload_n 2, 1) := by decide +kernel
theorem ddX5_open_38 : decode cX5_open 38 = .ok (.ireturn, 1) := by decide +kernel
theorem ddX5_openGates_0 : decode cX5_openGates 0 = .ok (.aload_n 0, 1) := by decide +kernel
theorem ddX5_openGates_1 : decode cX5_openGates 1 = .ok (.iload_n 1, 1) := by decide +kernel
theorem ddX5_openGates_2 : decode cX5_openGates 2 = .ok (.invokestatic 64, 3) := by decide +kernel
theorem ddX5_openGates_5 : decode cX5_openGates 5 = .ok (.ifCond .eq 7, 3) := by decide +kernel
theorem ddX5_openGates_8 : decode cX5_openGates 8 = .ok (.iconst 0, 1) := by decide +kernel
theorem ddX5_openGates_9 : decode cX5_openGates 9 = .ok (.goto 4, 3) := by decide +kernel
theorem ddX5_openGates_12 : decode cX5_openGates 12 = .ok (.iconst 1, 1) := by decide +kernel
theorem ddX5_openGates_13 : decode cX5_openGates 13 = .ok (.invokevirtual 71, 3) := by decide +kernel
theorem ddX5_openGates_16 : decode cX5_openGates 16 = .ok (.ifCond .eq 7, 3) := by decide +kernel
theorem ddX5_openGates_19 : decode cX5_openGates 19 = .ok (.iconst 0, 1) := by decide +kernel
theorem ddX5_openGates_20 : decode cX5_openGates 20 = .ok (.goto 8, 3) := by decide +kernel
theorem ddX5_openGates_23 : decode cX5_openGates 23 = .ok (.aload_n 0, 1) := by decide +kernel
theorem ddX5_openGates_24 : decode cX5_openGates 24 = .ok (.iload_n 1, 1) := by decide +kernel
theorem ddX5_openGates_25 : decode cX5_openGates 25 = .ok (.invokevirtual 135, 3) := by decide +kernel
theorem ddX5_openGates_28 : decode cX5_openGates 28 = .ok (.ireturn, 1) := by decide +kernel
theorem ddX5_openFromNow_0 : decode cX5_openFromNow 0 = .ok (.aload_n 0, 1) := by decide +kernel
theorem ddX5_openFromNow_1 : decode cX5_openFromNow 1 = .ok (.iconst 0, 1) := by decide +kernel
theorem ddX5_openFromNow_2 : decode cX5_openFromNow 2 = .ok (.putfield 42, 3) := by decide +kernel
theorem ddX5_openFromNow_5 : decode cX5_openFromNow 5 = .ok (.iconst 0, 1) := by decide +kernel
theorem ddX5_openFromNow_6 : decode cX5_openFromNow 6 = .ok (.istore_n 1, 1) := by decide +kernel
theorem ddX5_openFromNow_7 : decode cX5_openFromNow 7 = .ok (.aload_n 0, 1) := by decide +kernel
theorem ddX5_openFromNow_8 : decode cX5_openFromNow 8 = .ok (.getfield 7, 3) := by decide +kernel
theorem ddX5_openFromNow_11 : decode cX5_openFromNow 11 = .ok (.iconst 2, 1) := by decide +kernel
theorem ddX5_openFromNow_12 : decode cX5_openFromNow 12 = .ok (.iaload, 1) := by decide +kernel
theorem ddX5_openFromNow_13 : decode cX5_openFromNow 13 = .ok (.istore_n 2, 1) := by decide +kernel
theorem ddX5_openFromNow_14 : decode cX5_openFromNow 14 = .ok (.iload_n 2, 1) := by decide +kernel
theorem ddX5_openFromNow_15 : decode cX5_openFromNow 15 = .ok (.bipush 28, 2) := by decide +kernel
theorem ddX5_openFromNow_17 : decode cX5_openFromNow 17 = .ok (.if_icmp .ge 17, 3) := by decide +kernel
theorem ddX5_openFromNow_20 : decode cX5_openFromNow 20 = .ok (.iload_n 1, 1) := by decide +kernel
theorem ddX5_openFromNow_21 : decode cX5_openFromNow 21 = .ok (.aload_n 0, 1) := by decide +kernel
theorem ddX5_openFromNow_22 : decode cX5_openFromNow 22 = .ok (.iload_n 2, 1) := by decide +kernel
theorem ddX5_openFromNow_23 : decode cX5_openFromNow 23 = .ok (.invokevirtual 135, 3) := by decide +kernel
theorem ddX5_openFromNow_26 : decode cX5_openFromNow 26 = .ok (.iadd, 1) := by decide +kernel
theorem ddX5_openFromNow_27 : decode cX5_openFromNow 27 = .ok (.istore_n 1, 1) := by decide +kernel
theorem ddX5_openFromNow_28 : decode cX5_openFromNow 28 = .ok (.iinc 2 1, 3) := by decide +kernel
theorem ddX5_openFromNow_31 : decode cX5_openFromNow 31 = .ok (.goto (-17), 3) := by decide +kernel
theorem ddX5_openFromNow_34 : decode cX5_openFromNow 34 = .ok (.iload_n 1, 1) := by decide +kernel
theorem ddX5_openFromNow_35 : decode cX5_openFromNow 35 = .ok (.ireturn, 1) := by decide +kernel
theorem ddX5_openPlaces_0 : decode cX5_openPlaces 0 = .ok (.aload_n 0, 1) := by decide +kernel
theorem ddX5_openPlaces_1 : decode cX5_openPlaces 1 = .ok (.invokevirtual 138, 3) := by decide +kernel
theorem ddX5_openPlaces_4 : decode cX5_openPlaces 4 = .ok (.ireturn, 1) := by decide +kernel
theorem ddX5_openPlacesBySlots_0 : decode cX5_openPlacesBySlots 0 = .ok (.aload_n 0, 1) := by decide +kernel
theorem ddX5_openPlacesBySlots_1 : decode cX5_openPlacesBySlots 1 = .ok (.invokevirtual 138, 3) := by decide +kernel
theorem ddX5_openPlacesBySlots_4 : decode cX5_openPlacesBySlots 4 = .ok (.ireturn, 1) := by decide +kernel
theorem ddX5_most_0 : decode cX5_most 0 = .ok (.aload_n 0, 1) := by decide +kernel
theorem ddX5_most_1 : decode cX5_most 1 = .ok (.iload_n 1, 1) := by decide +kernel
theorem ddX5_most_2 : decode cX5_most 2 = .ok (.invokestatic 64, 3) := by decide +kernel
theorem ddX5_most_5 : decode cX5_most 5 = .ok (.ifCond .eq 7, 3) := by decide +kernel
theorem ddX5_most_8 : decode cX5_most 8 = .ok (.iconst 0, 1) := by decide +kernel
theorem ddX5_most_9 : decode cX5_most 9 = .ok (.goto 4, 3) := by decide +kernel
theorem ddX5_most_12 : decode cX5_most 12 = .ok (.iconst 1, 1) := by decide +kernel
theorem ddX5_most_13 : decode cX5_most 13 = .ok (.invokevirtual 71, 3) := by decide +kernel
theorem ddX5_most_16 : decode cX5_most 16 = .ok (.ifCond .eq 5, 3) := by decide +kernel
theorem ddX5_most_19 : decode cX5_most 19 = .ok (.iconst 0, 1) := by decide +kernel
theorem ddX5_most_20 : decode cX5_most 20 = .ok (.ireturn, 1) := by decide +kernel
theorem ddX5_most_21 : decode cX5_most 21 = .ok (.iconst 0, 1) := by decide +kernel
theorem ddX5_most_22 : decode cX5_most 22 = .ok (.istore_n 2, 1) := by decide +kernel
theorem ddX5_most_23 : decode cX5_most 23 = .ok (.iload_n 2, 1) := by decide +kernel
theorem ddX5_most_24 : decode cX5_most 24 = .ok (.bipush 32, 2) := by decide +kernel
theorem ddX5_most_26 : decode cX5_most 26 = .ok (.if_icmp .ge 24, 3) := by decide +kernel
theorem ddX5_most_29 : decode cX5_most 29 = .ok (.aload_n 0, 1) := by decide +kernel
theorem ddX5_most_30 : decode cX5_most 30 = .ok (.getfield 36, 3) := by decide +kernel
theorem ddX5_most_33 : decode cX5_most 33 = .ok (.iload_n 2, 1) := by decide +kernel
theorem ddX5_most_34 : decode cX5_most 34 = .ok (.iload_n 2, 1) := by decide +kernel
theorem ddX5_most_35 : decode cX5_most 35 = .ok (.ifCond .ne 7, 3) := by decide +kernel
theorem ddX5_most_38 : decode cX5_most 38 = .ok (.iconst 0, 1) := by decide +kernel
theorem ddX5_most_39 : decode cX5_most 39 = .ok (.goto 4, 3) := by decide +kernel
theorem ddX5_most_42 : decode cX5_most 42 = .ok (.iconst (-1), 1) := by decide +kernel
theorem ddX5_most_43 : decode cX5_most 43 = .ok (.iastore, 1) := by decide +kernel
theorem ddX5_most_44 : decode cX5_most 44 = .ok (.iinc 2 1, 3) := by decide +kernel
theorem ddX5_most_47 : decode cX5_most 47 = .ok (.goto (-24), 3) := by decide +kernel
theorem ddX5_most_50 : decode cX5_most 50 = .ok (.iconst 0, 1) := by decide +kernel
theorem ddX5_most_51 : decode cX5_most 51 = .ok (.istore_n 2, 1) := by decide +kernel
theorem ddX5_most_52 : decode cX5_most 52 = .ok (.iload_n 2, 1) := by decide +kernel
theorem ddX5_most_53 : decode cX5_most 53 = .ok (.aload_n 0, 1) := by decide +kernel
theorem ddX5_most_54 : decode cX5_most 54 = .ok (.getfield 7, 3) := by decide +kernel
theorem ddX5_most_57 : decode cX5_most 57 = .ok (.iconst 1, 1) := by decide +kernel
theorem ddX5_most_58 : decode cX5_most 58 = .ok (.iaload, 1) := by decide +kernel
theorem ddX5_most_59 : decode cX5_most 59 = .ok (.if_icmp .ge 109, 3) := by decide +kernel
theorem ddX5_most_62 : decode cX5_most 62 = .ok (.bipush 31, 2) := by decide +kernel
theorem ddX5_most_64 : decode cX5_most 64 = .ok (.istore_n 3, 1) := by decide +kernel
theorem ddX5_most_65 : decode cX5_most 65 = .ok (.iload_n 3, 1) := by decide +kernel
theorem ddX5_most_66 : decode cX5_most 66 = .ok (.ifCond .lt 96, 3) := by decide +kernel
theorem ddX5_most_69 : decode cX5_most 69 = .ok (.iconst 0, 1) := by decide +kernel
theorem ddX5_most_70 : decode cX5_most 70 = .ok (.istore 4, 2) := by decide +kernel
theorem ddX5_most_72 : decode cX5_most 72 = .ok (.iload 4, 2) := by decide +kernel
theorem ddX5_most_74 : decode cX5_most 74 = .ok (.aload_n 0, 1) := by decide +kernel
theorem ddX5_most_75 : decode cX5_most 75 = .ok (.getfield 7, 3) := by decide +kernel
theorem ddX5_most_78 : decode cX5_most 78 = .ok (.iconst 0, 1) := by decide +kernel
theorem ddX5_most_79 : decode cX5_most 79 = .ok (.iaload, 1) := by decide +kernel
theorem ddX5_most_80 : decode cX5_most 80 = .ok (.if_icmp .ge 76, 3) := by decide +kernel
theorem ddX5_most_83 : decode cX5_most 83 = .ok (.iload_n 3, 1) := by decide +kernel
theorem ddX5_most_84 : decode cX5_most 84 = .ok (.iconst 1, 1) := by decide +kernel
theorem ddX5_most_85 : decode cX5_most 85 = .ok (.iload 4, 2) := by decide +kernel
theorem ddX5_most_87 : decode cX5_most 87 = .ok (.ishl, 1) := by decide +kernel
theorem ddX5_most_88 : decode cX5_most 88 = .ok (.ior, 1) := by decide +kernel
theorem ddX5_most_89 : decode cX5_most 89 = .ok (.istore 5, 2) := by decide +kernel
theorem ddX5_most_91 : decode cX5_most 91 = .ok (.iload 5, 2) := by decide +kernel
theorem ddX5_most_93 : decode cX5_most 93 = .ok (.iload_n 3, 1) := by decide +kernel
theorem ddX5_most_94 : decode cX5_most 94 = .ok (.if_icmp .eq 56, 3) := by decide +kernel
theorem ddX5_most_97 : decode cX5_most 97 = .ok (.aload_n 0, 1) := by decide +kernel
theorem ddX5_most_98 : decode cX5_most 98 = .ok (.getfield 36, 3) := by decide +kernel
theorem ddX5_most_101 : decode cX5_most 101 = .ok (.iload_n 3, 1) := by decide +kernel
theorem ddX5_most_102 : decode cX5_most 102 = .ok (.iaload, 1) := by decide +kernel
theorem ddX5_most_103 : decode cX5_most 103 = .ok (.ifCond .lt 47, 3) := by decide +kernel
theorem ddX5_most_106 : decode cX5_most 106 = .ok (.aload_n 0, 1) := by decide +kernel
theorem ddX5_most_107 : decode cX5_most 107 = .ok (.iload 4, 2) := by decide +kernel
theorem ddX5_most_109 : decode cX5_most 109 = .ok (.iload_n 1, 1) := by decide +kernel
theorem ddX5_most_110 : decode cX5_most 110 = .ok (.iload_n 2, 1) := by decide +kernel
theorem ddX5_most_111 : decode cX5_most 111 = .ok (.invokevirtual 98, 3) := by decide +kernel
theorem ddX5_most_114 : decode cX5_most 114 = .ok (.ifCond .ne 36, 3) := by decide +kernel
theorem ddX5_most_117 : decode cX5_most 117 = .ok (.aload_n 0, 1) := by decide +kernel
theorem ddX5_most_118 : decode cX5_most 118 = .ok (.getfield 36, 3) := by decide +kernel
theorem ddX5_most_121 : decode cX5_most 121 = .ok (.iload_n 3, 1) := by decide +kernel
theorem ddX5_most_122 : decode cX5_most 122 = .ok (.iaload, 1) := by decide +kernel
theorem ddX5_most_123 : decode cX5_most 123 = .ok (.iconst 1, 1) := by decide +kernel
theorem ddX5_most_124 : decode cX5_most 124 = .ok (.iadd, 1) := by decide +kernel
theorem ddX5_most_125 : decode cX5_most 125 = .ok (.aload_n 0, 1) := by decide +kernel
theorem ddX5_most_126 : decode cX5_most 126 = .ok (.getfield 36, 3) := by decide +kernel
theorem ddX5_most_129 : decode cX5_most 129 = .ok (.iload 5, 2) := by decide +kernel
theorem ddX5_most_131 : decode cX5_most 131 = .ok (.iaload, 1) := by decide +kernel
theorem ddX5_most_132 : decode cX5_most 132 = .ok (.if_icmp .le 18, 3) := by decide +kernel
theorem ddX5_most_135 : decode cX5_most 135 = .ok (.aload_n 0, 1) := by decide +kernel
theorem ddX5_most_136 : decode cX5_most 136 = .ok (.getfield 36, 3) := by decide +kernel
theorem ddX5_most_139 : decode cX5_most 139 = .ok (.iload 5, 2) := by decide +kernel
theorem ddX5_most_141 : decode cX5_most 141 = .ok (.aload_n 0, 1) := by decide +kernel
theorem ddX5_most_142 : decode cX5_most 142 = .ok (.getfield 36, 3) := by decide +kernel
theorem ddX5_most_145 : decode cX5_most 145 = .ok (.iload_n 3, 1) := by decide +kernel
theorem ddX5_most_146 : decode cX5_most 146 = .ok (.iaload, 1) := by decide +kernel
theorem ddX5_most_147 : decode cX5_most 147 = .ok (.iconst 1, 1) := by decide +kernel
theorem ddX5_most_148 : decode cX5_most 148 = .ok (.iadd, 1) := by decide +kernel
theorem ddX5_most_149 : decode cX5_most 149 = .ok (.iastore, 1) := by decide +kernel
theorem ddX5_most_150 : decode cX5_most 150 = .ok (.iinc 4 1, 3) := by decide +kernel
theorem ddX5_most_153 : decode cX5_most 153 = .ok (.goto (-81), 3) := by decide +kernel
theorem ddX5_most_156 : decode cX5_most 156 = .ok (.iinc 3 (-1), 3) := by decide +kernel
theorem ddX5_most_159 : decode cX5_most 159 = .ok (.goto (-94), 3) := by decide +kernel
theorem ddX5_most_162 : decode cX5_most 162 = .ok (.iinc 2 1, 3) := by decide +kernel
theorem ddX5_most_165 : decode cX5_most 165 = .ok (.goto (-113), 3) := by decide +kernel
theorem ddX5_most_168 : decode cX5_most 168 = .ok (.iconst 0, 1) := by decide +kernel
theorem ddX5_most_169 : decode cX5_most 169 = .ok (.istore_n 2, 1) := by decide +kernel
theorem ddX5_most_170 : decode cX5_most 170 = .ok (.iconst 0, 1) := by decide +kernel
theorem ddX5_most_171 : decode cX5_most 171 = .ok (.istore_n 3, 1) := by decide +kernel
theorem ddX5_most_172 : decode cX5_most 172 = .ok (.iload_n 3, 1) := by decide +kernel
theorem ddX5_most_173 : decode cX5_most 173 = .ok (.bipush 32, 2) := by decide +kernel
theorem ddX5_most_175 : decode cX5_most 175 = .ok (.if_icmp .ge 26, 3) := by decide +kernel
theorem ddX5_most_178 : decode cX5_most 178 = .ok (.aload_n 0, 1) := by decide +kernel
theorem ddX5_most_179 : decode cX5_most 179 = .ok (.getfield 36, 3) := by decide +kernel
theorem ddX5_most_182 : decode cX5_most 182 = .ok (.iload_n 3, 1) := by decide +kernel
theorem ddX5_most_183 : decode cX5_most 183 = .ok (.iaload, 1) := by decide +kernel
theorem ddX5_most_184 : decode cX5_most 184 = .ok (.iload_n 2, 1) := by decide +kernel
theorem ddX5_most_185 : decode cX5_most 185 = .ok (.if_icmp .le 10, 3) := by decide +kernel
theorem ddX5_most_188 : decode cX5_most 188 = .ok (.aload_n 0, 1) := by decide +kernel
theorem ddX5_most_189 : decode cX5_most 189 = .ok (.getfield 36, 3) := by decide +kernel
theorem ddX5_most_192 : decode cX5_most 192 = .ok (.iload_n 3, 1) := by decide +kernel
theorem ddX5_most_193 : decode cX5_most 193 = .ok (.iaload, 1) := by decide +kernel
theorem ddX5_most_194 : decode cX5_most 194 = .ok (.istore_n 2, 1) := by decide +kernel
theorem ddX5_most_195 : decode cX5_most 195 = .ok (.iinc 3 1, 3) := by decide +kernel
theorem ddX5_most_198 : decode cX5_most 198 = .ok (.goto (-26), 3) := by decide +kernel
theorem ddX5_most_201 : decode cX5_most 201 = .ok (.iload_n 2, 1) := by decide +kernel
theorem ddX5_most_202 : decode cX5_most 202 = .ok (.ireturn, 1) := by decide +kernel
theorem ddX5_mostDuties_0 : decode cX5_mostDuties 0 = .ok (.aload_n 0, 1) := by decide +kernel
theorem ddX5_mostDuties_1 : decode cX5_mostDuties 1 = .ok (.iload_n 1, 1) := by decide +kernel
theorem ddX5_mostDuties_2 : decode cX5_mostDuties 2 = .ok (.invokevirtual 141, 3) := by decide +kernel
theorem ddX5_mostDuties_5 : decode cX5_mostDuties 5 = .ok (.ireturn, 1) := by decide +kernel
theorem ddX5_mostDutiesBySets_0 : decode cX5_mostDutiesBySets 0 = .ok (.aload_n 0, 1) := by decide +kernel
theorem ddX5_mostDutiesBySets_1 : decode cX5_mostDutiesBySets 1 = .ok (.iload_n 1, 1) := by decide +kernel
theorem ddX5_mostDutiesBySets_2 : decode cX5_mostDutiesBySets 2 = .ok (.invokevirtual 141, 3) := by decide +kernel
theorem ddX5_mostDutiesBySets_5 : decode cX5_mostDutiesBySets 5 = .ok (.ireturn, 1) := by decide +kernel
theorem ddX5_following_0 : decode cX5_following 0 = .ok (.aload_n 0, 1) := by decide +kernel
theorem ddX5_following_1 : decode cX5_following 1 = .ok (.getfield 7, 3) := by decide +kernel
theorem ddX5_following_4 : decode cX5_following 4 = .ok (.iconst 2, 1) := by decide +kernel
theorem ddX5_following_5 : decode cX5_following 5 = .ok (.iaload, 1) := by decide +kernel
theorem ddX5_following_6 : decode cX5_following 6 = .ok (.istore_n 2, 1) := by decide +kernel
theorem ddX5_following_7 : decode cX5_following 7 = .ok (.iload_n 2, 1) := by decide +kernel
theorem ddX5_following_8 : decode cX5_following 8 = .ok (.bipush 28, 2) := by decide +kernel
theorem ddX5_following_10 : decode cX5_following 10 = .ok (.if_icmp .ge 20, 3) := by decide +kernel
theorem ddX5_following_13 : decode cX5_following 13 = .ok (.aload_n 0, 1) := by decide +kernel
theorem ddX5_following_14 : decode cX5_following 14 = .ok (.iload_n 1, 1) := by decide +kernel
theorem ddX5_following_15 : decode cX5_following 15 = .ok (.iload_n 2, 1) := by decide +kernel
theorem ddX5_following_16 : decode cX5_following 16 = .ok (.invokevirtual 95, 3) := by decide +kernel
theorem ddX5_following_19 : decode cX5_following 19 = .ok (.ifCond .lt 5, 3) := by decide +kernel
theorem ddX5_following_22 : decode cX5_following 22 = .ok (.iload_n 2, 1) := by decide +kernel
theorem ddX5_following_23 : decode cX5_following 23 = .ok (.ireturn, 1) := by decide +kernel
theorem ddX5_following_24 : decode cX5_following 24 = .ok (.iinc 2 1, 3) := by decide +kernel
theorem ddX5_following_27 : decode cX5_following 27 = .ok (.goto (-20), 3) := by decide +kernel
theorem ddX5_following_30 : decode cX5_following 30 = .ok (.iconst (-1), 1) := by decide +kernel
theorem ddX5_following_31 : decode cX5_following 31 = .ok (.ireturn, 1) := by decide +kernel
theorem ddX5_nextDuty_0 : decode cX5_nextDuty 0 = .ok (.aload_n 0, 1) := by decide +kernel
theorem ddX5_nextDuty_1 : decode cX5_nextDuty 1 = .ok (.aload_n 0, 1) := by decide +kernel
theorem ddX5_nextDuty_2 : decode cX5_nextDuty 2 = .ok (.iload_n 1, 1) := by decide +kernel
theorem ddX5_nextDuty_3 : decode cX5_nextDuty 3 = .ok (.invokevirtual 78, 3) := by decide +kernel
theorem ddX5_nextDuty_6 : decode cX5_nextDuty 6 = .ok (.ifCond .ne 7, 3) := by decide +kernel
theorem ddX5_nextDuty_9 : decode cX5_nextDuty 9 = .ok (.iconst 1, 1) := by decide +kernel
theorem ddX5_nextDuty_10 : decode cX5_nextDuty 10 = .ok (.goto 16, 3) := by decide +kernel
theorem ddX5_nextDuty_13 : decode cX5_nextDuty 13 = .ok (.aload_n 0, 1) := by decide +kernel
theorem ddX5_nextDuty_14 : decode cX5_nextDuty 14 = .ok (.iload_n 1, 1) := by decide +kernel
theorem ddX5_nextDuty_15 : decode cX5_nextDuty 15 = .ok (.invokevirtual 144, 3) := by decide +kernel
theorem ddX5_nextDuty_18 : decode cX5_nextDuty 18 = .ok (.ifCond .ge 7, 3) := by decide +kernel
theorem ddX5_nextDuty_21 : decode cX5_nextDuty 21 = .ok (.iconst 2, 1) := by decide +kernel
theorem ddX5_nextDuty_22 : decode cX5_nextDuty 22 = .ok (.goto 4, 3) := by decide +kernel
theorem ddX5_nextDuty_25 : decode cX5_nextDuty 25 = .ok (.iconst 0, 1) := by decide +kernel
theorem ddX5_nextDuty_26 : decode cX5_nextDuty 26 = .ok (.invokevirtual 71, 3) := by decide +kernel
theorem ddX5_nextDuty_29 : decode cX5_nextDuty 29 = .ok (.ifCond .eq 7, 3) := by decide +kernel
theorem ddX5_nextDuty_32 : decode cX5_nextDuty 32 = .ok (.iconst 0, 1) := by decide +kernel
theorem ddX5_nextDuty_33 : decode cX5_nextDuty 33 = .ok (.goto 8, 3) := by decide +kernel
theorem ddX5_nextDuty_36 : decode cX5_nextDuty 36 = .ok (.aload_n 0, 1) := by decide +kernel
theorem ddX5_nextDuty_37 : decode cX5_nextDuty 37 = .ok (.iload_n 1, 1) := by decide +kernel
theorem ddX5_nextDuty_38 : decode cX5_nextDuty 38 = .ok (.invokevirtual 144, 3) := by decide +kernel
theorem ddX5_nextDuty_41 : decode cX5_nextDuty 41 = .ok (.ireturn, 1) := by decide +kernel
theorem ddX5_longestRest_0 : decode cX5_longestRest 0 = .ok (.aload_n 0, 1) := by decide +kernel
theorem ddX5_longestRest_1 : decode cX5_longestRest 1 = .ok (.iload_n 1, 1) := by decide +kernel
theorem ddX5_longestRest_2 : decode cX5_longestRest 2 = .ok (.invokevirtual 81, 3) := by decide +kernel
theorem ddX5_longestRest_5 : decode cX5_longestRest 5 = .ok (.ifCond .eq 5, 3) := by decide +kernel
theorem ddX5_longestRest_8 : decode cX5_longestRest 8 = .ok (.iconst 0, 1) := by decide +kernel
theorem ddX5_longestRest_9 : decode cX5_longestRest 9 = .ok (.ireturn, 1) := by decide +kernel
theorem ddX5_longestRest_10 : decode cX5_longestRest 10 = .ok (.iconst 0, 1) := by decide +kernel
theorem ddX5_longestRest_11 : decode cX5_longestRest 11 = .ok (.istore_n 2, 1) := by decide +kernel
theorem ddX5_longestRest_12 : decode cX5_longestRest 12 = .ok (.iconst 0, 1) := by decide +kernel
theorem ddX5_longestRest_13 : decode cX5_longestRest 13 = .ok (.istore_n 3, 1) := by decide +kernel
theorem ddX5_longestRest_14 : decode cX5_longestRest 14 = .ok (.iconst 0, 1) := by decide +kernel
theorem ddX5_longestRest_15 : decode cX5_longestRest 15 = .ok (.istore 4, 2) := by decide +kernel
theorem ddX5_longestRest_17 : decode cX5_longestRest 17 = .ok (.iload 4, 2) := by decide +kernel
theorem ddX5_longestRest_19 : decode cX5_longestRest 19 = .ok (.bipush 28, 2) := by decide +kernel
theorem ddX5_longestRest_21 : decode cX5_longestRest 21 = .ok (.if_icmp .ge 34, 3) := by decide +kernel
theorem ddX5_longestRest_24 : decode cX5_longestRest 24 = .ok (.aload_n 0, 1) := by decide +kernel
theorem ddX5_longestRest_25 : decode cX5_longestRest 25 = .ok (.iload_n 1, 1) := by decide +kernel
theorem ddX5_longestRest_26 : decode cX5_longestRest 26 = .ok (.iload 4, 2) := by decide +kernel
theorem ddX5_longestRest_28 : decode cX5_longestRest 28 = .ok (.invokevirtual 95, 3) := by decide +kernel
theorem ddX5_longestRest_31 : decode cX5_longestRest 31 = .ok (.ifCond .ge 9, 3) := by decide +kernel
theorem ddX5_longestRest_34 : decode cX5_longestRest 34 = .ok (.iload_n 3, 1) := by decide +kernel
theorem ddX5_longestRest_35 : decode cX5_longestRest 35 = .ok (.iconst 1, 1) := by decide +kernel
theorem ddX5_longestRest_36 : decode cX5_longestRest 36 = .ok (.iadd, 1) := by decide +kernel
theorem ddX5_longestRest_37 : decode cX5_longestRest 37 = .ok (.goto 4, 3) := by decide +kernel
theorem ddX5_longestRest_40 : decode cX5_longestRest 40 = .ok (.iconst 0, 1) := by decide +kernel
theorem ddX5_longestRest_41 : decode cX5_longestRest 41 = .ok (.istore_n 3, 1) := by decide +kernel
theorem ddX5_longestRest_42 : decode cX5_longestRest 42 = .ok (.iload_n 3, 1) := by decide +kernel
theorem ddX5_longestRest_43 : decode cX5_longestRest 43 = .ok (.iload_n 2, 1) := by decide +kernel
theorem ddX5_longestRest_44 : decode cX5_longestRest 44 = .ok (.if_icmp .le 5, 3) := by decide +kernel
theorem ddX5_longestRest_47 : decode cX5_longestRest 47 = .ok (.iload_n 3, 1) := by decide +kernel
theorem ddX5_longestRest_48 : decode cX5_longestRest 48 = .ok (.istore_n 2, 1) := by decide +kernel
theorem ddX5_longestRest_49 : decode cX5_longestRest 49 = .ok (.iinc 4 1, 3) := by decide +kernel
theorem ddX5_longestRest_52 : decode cX5_longestRest 52 = .ok (.goto (-35), 3) := by decide +kernel
theorem ddX5_longestRest_55 : decode cX5_longestRest 55 = .ok (.iload_n 2, 1) := by decide +kernel
theorem ddX5_longestRest_56 : decode cX5_longestRest 56 = .ok (.ireturn, 1) := by decide +kernel
theorem ddX5_guardByDuties_0 : decode cX5_guardByDuties 0 = .ok (.iconst 0, 1) := by decide +kernel
theorem ddX5_guardByDuties_1 : decode cX5_guardByDuties 1 = .ok (.istore_n 2, 1) := by decide +kernel
theorem ddX5_guardByDuties_2 : decode cX5_guardByDuties 2 = .ok (.iload_n 2, 1) := by decide +kernel
theorem ddX5_guardByDuties_3 : decode cX5_guardByDuties 3 = .ok (.aload_n 0, 1) := by decide +kernel
theorem ddX5_guardByDuties_4 : decode cX5_guardByDuties 4 = .ok (.getfield 7, 3) := by decide +kernel
theorem ddX5_guardByDuties_7 : decode cX5_guardByDuties 7 = .ok (.iconst 1, 1) := by decide +kernel
theorem ddX5_guardByDuties_8 : decode cX5_guardByDuties 8 = .ok (.iaload, 1) := by decide +kernel
theorem ddX5_guardByDuties_9 : decode cX5_guardByDuties 9 = .ok (.if_icmp .ge 64, 3) := by decide +kernel
theorem ddX5_guardByDuties_12 : decode cX5_guardByDuties 12 = .ok (.iconst 0, 1) := by decide +kernel
theorem ddX5_guardByDuties_13 : decode cX5_guardByDuties 13 = .ok (.istore_n 3, 1) := by decide +kernel
theorem ddX5_guardByDuties_14 : decode cX5_guardByDuties 14 = .ok (.iconst 0, 1) := by decide +kernel
theorem ddX5_guardByDuties_15 : decode cX5_guardByDuties 15 = .ok (.istore 4, 2) := by decide +kernel
theorem ddX5_guardByDuties_17 : decode cX5_guardByDuties 17 = .ok (.iload 4, 2) := by decide +kernel
theorem ddX5_guardByDuties_19 : decode cX5_guardByDuties 19 = .ok (.aload_n 0, 1) := by decide +kernel
theorem ddX5_guardByDuties_20 : decode cX5_guardByDuties 20 = .ok (.getfield 7, 3) := by decide +kernel
theorem ddX5_guardByDuties_23 : decode cX5_guardByDuties 23 = .ok (.iconst 1, 1) := by decide +kernel
theorem ddX5_guardByDuties_24 : decode cX5_guardByDuties 24 = .ok (.iaload, 1) := by decide +kernel
theorem ddX5_guardByDuties_25 : decode cX5_guardByDuties 25 = .ok (.if_icmp .ge 27, 3) := by decide +kernel
theorem ddX5_guardByDuties_28 : decode cX5_guardByDuties 28 = .ok (.iload_n 3, 1) := by decide +kernel
theorem ddX5_guardByDuties_29 : decode cX5_guardByDuties 29 = .ok (.aload_n 0, 1) := by decide +kernel
theorem ddX5_guardByDuties_30 : decode cX5_guardByDuties 30 = .ok (.iload 4, 2) := by decide +kernel
theorem ddX5_guardByDuties_32 : decode cX5_guardByDuties 32 = .ok (.iload_n 2, 1) := by decide +kernel
theorem ddX5_guardByDuties_33 : decode cX5_guardByDuties 33 = .ok (.invokevirtual 122, 3) := by decide +kernel
theorem ddX5_guardByDuties_36 : decode cX5_guardByDuties 36 = .ok (.ifCond .eq 7, 3) := by decide +kernel
theorem ddX5_guardByDuties_39 : decode cX5_guardByDuties 39 = .ok (.iconst 1, 1) := by decide +kernel
theorem ddX5_guardByDuties_40 : decode cX5_guardByDuties 40 = .ok (.goto 4, 3) := by decide +kernel
theorem ddX5_guardByDuties_43 : decode cX5_guardByDuties 43 = .ok (.iconst 0, 1) := by decide +kernel
theorem ddX5_guardByDuties_44 : decode cX5_guardByDuties 44 = .ok (.iadd, 1) := by decide +kernel
theorem ddX5_guardByDuties_45 : decode cX5_guardByDuties 45 = .ok (.istore_n 3, 1) := by decide +kernel
theorem ddX5_guardByDuties_46 : decode cX5_guardByDuties 46 = .ok (.iinc 4 1, 3) := by decide +kernel
theorem ddX5_guardByDuties_49 : decode cX5_guardByDuties 49 = .ok (.goto (-32), 3) := by decide +kernel
theorem ddX5_guardByDuties_52 : decode cX5_guardByDuties 52 = .ok (.iload_n 3, 1) := by decide +kernel
theorem ddX5_guardByDuties_53 : decode cX5_guardByDuties 53 = .ok (.iload_n 1, 1) := by decide +kernel
theorem ddX5_guardByDuties_54 : decode cX5_guardByDuties 54 = .ok (.if_icmp .eq 6, 3) := by decide +kernel
theorem ddX5_guardByDuties_57 : decode cX5_guardByDuties 57 = .ok (.goto 10, 3) := by decide +kernel
theorem ddX5_guardByDuties_60 : decode cX5_guardByDuties 60 = .ok (.aload_n 0, 1) := by decide +kernel
theorem ddX5_guardByDuties_61 : decode cX5_guardByDuties 61 = .ok (.iconst 0, 1) := by decide +kernel
theorem ddX5_guardByDuties_62 : decode cX5_guardByDuties 62 = .ok (.putfield 42, 3) := by decide +kernel
theorem ddX5_guardByDuties_65 : decode cX5_guardByDuties 65 = .ok (.iload_n 2, 1) := by decide +kernel
theorem ddX5_guardByDuties_66 : decode cX5_guardByDuties 66 = .ok (.ireturn, 1) := by decide +kernel
theorem ddX5_guardByDuties_67 : decode cX5_guardByDuties 67 = .ok (.iinc 2 1, 3) := by decide +kernel
theorem ddX5_guardByDuties_70 : decode cX5_guardByDuties 70 = .ok (.goto (-68), 3) := by decide +kernel
theorem ddX5_guardByDuties_73 : decode cX5_guardByDuties 73 = .ok (.aload_n 0, 1) := by decide +kernel
theorem ddX5_guardByDuties_74 : decode cX5_guardByDuties 74 = .ok (.iconst 1, 1) := by decide +kernel
theorem ddX5_guardByDuties_75 : decode cX5_guardByDuties 75 = .ok (.putfield 42, 3) := by decide +kernel
theorem ddX5_guardByDuties_78 : decode cX5_guardByDuties 78 = .ok (.iconst 0, 1) := by decide +kernel
theorem ddX5_guardByDuties_79 : decode cX5_guardByDuties 79 = .ok (.ireturn, 1) := by decide +kernel
theorem ddX5_bits_0 : decode cX5_bits 0 = .ok (.iconst 0, 1) := by decide +kernel
theorem ddX5_bits_1 : decode cX5_bits 1 = .ok (.istore_n 1, 1) := by decide +kernel
theorem ddX5_bits_2 : decode cX5_bits 2 = .ok (.iconst 0, 1) := by decide +kernel
theorem ddX5_bits_3 : decode cX5_bits 3 = .ok (.istore_n 2, 1) := by decide +kernel
theorem ddX5_bits_4 : decode cX5_bits 4 = .ok (.iload_n 2, 1) := by decide +kernel
theorem ddX5_bits_5 : decode cX5_bits 5 = .ok (.bipush 28, 2) := by decide +kernel
theorem ddX5_bits_7 : decode cX5_bits 7 = .ok (.if_icmp .ge 17, 3) := by decide +kernel
theorem ddX5_bits_10 : decode cX5_bits 10 = .ok (.iload_n 1, 1) := by decide +kernel
theorem ddX5_bits_11 : decode cX5_bits 11 = .ok (.iload_n 0, 1) := by decide +kernel
theorem ddX5_bits_12 : decode cX5_bits 12 = .ok (.iload_n 2, 1) := by decide +kernel
theorem ddX5_bits_13 : decode cX5_bits 13 = .ok (.ishr, 1) := by decide +kernel
theorem ddX5_bits_14 : decode cX5_bits 14 = .ok (.iconst 1, 1) := by decide +kernel
theorem ddX5_bits_15 : decode cX5_bits 15 = .ok (.iand, 1) := by decide +kernel
theorem ddX5_bits_16 : decode cX5_bits 16 = .ok (.iadd, 1) := by decide +kernel
theorem ddX5_bits_17 : decode cX5_bits 17 = .ok (.istore_n 1, 1) := by decide +kernel
theorem ddX5_bits_18 : decode cX5_bits 18 = .ok (.iinc 2 1, 3) := by decide +kernel
theorem ddX5_bits_21 : decode cX5_bits 21 = .ok (.goto (-17), 3) := by decide +kernel
theorem ddX5_bits_24 : decode cX5_bits 24 = .ok (.iload_n 1, 1) := by decide +kernel
theorem ddX5_bits_25 : decode cX5_bits 25 = .ok (.ireturn, 1) := by decide +kernel
theorem ddX5_grantLeave_0 : decode cX5_grantLeave 0 = .ok (.aload_n 0, 1) := by decide +kernel
theorem ddX5_grantLeave_1 : decode cX5_grantLeave 1 = .ok (.aload_n 0, 1) := by decide +kernel
theorem ddX5_grantLeave_2 : decode cX5_grantLeave 2 = .ok (.iload_n 1, 1) := by decide +kernel
theorem ddX5_grantLeave_3 : decode cX5_grantLeave 3 = .ok (.invokevirtual 78, 3) := by decide +kernel
theorem ddX5_grantLeave_6 : decode cX5_grantLeave 6 = .ok (.ifCond .ne 7, 3) := by decide +kernel
theorem ddX5_grantLeave_9 : decode cX5_grantLeave 9 = .ok (.iconst 1, 1) := by decide +kernel
theorem ddX5_grantLeave_10 : decode cX5_grantLeave 10 = .ok (.goto 27, 3) := by decide +kernel
theorem ddX5_grantLeave_13 : decode cX5_grantLeave 13 = .ok (.iload_n 2, 1) := by decide +kernel
theorem ddX5_grantLeave_14 : decode cX5_grantLeave 14 = .ok (.invokestatic 64, 3) := by decide +kernel
theorem ddX5_grantLeave_17 : decode cX5_grantLeave 17 = .ok (.ifCond .eq 19, 3) := by decide +kernel
theorem ddX5_grantLeave_20 : decode cX5_grantLeave 20 = .ok (.iload_n 3, 1) := by decide +kernel
theorem ddX5_grantLeave_21 : decode cX5_grantLeave 21 = .ok (.invokestatic 64, 3) := by decide +kernel
theorem ddX5_grantLeave_24 : decode cX5_grantLeave 24 = .ok (.ifCond .eq 12, 3) := by decide +kernel
theorem ddX5_grantLeave_27 : decode cX5_grantLeave 27 = .ok (.iload_n 2, 1) := by decide +kernel
theorem ddX5_grantLeave_28 : decode cX5_grantLeave 28 = .ok (.iload_n 3, 1) := by decide +kernel
theorem ddX5_grantLeave_29 : decode cX5_grantLeave 29 = .ok (.if_icmp .gt 7, 3) := by decide +kernel
theorem ddX5_grantLeave_32 : decode cX5_grantLeave 32 = .ok (.iconst 0, 1) := by decide +kernel
theorem ddX5_grantLeave_33 : decode cX5_grantLeave 33 = .ok (.goto 4, 3) := by decide +kernel
theorem ddX5_grantLeave_36 : decode cX5_grantLeave 36 = .ok (.iconst 2, 1) := by decide +kernel
theorem ddX5_grantLeave_37 : decode cX5_grantLeave 37 = .ok (.invokevirtual 71, 3) := by decide +kernel
theorem ddX5_grantLeave_40 : decode cX5_grantLeave 40 = .ok (.ifCond .eq 5, 3) := by decide +kernel
theorem ddX5_grantLeave_43 : decode cX5_grantLeave 43 = .ok (.iconst 0, 1) := by decide +kernel
theorem ddX5_grantLeave_44 : decode cX5_grantLeave 44 = .ok (.ireturn, 1) := by decide +kernel
theorem ddX5_grantLeave_45 : decode cX5_grantLeave 45 = .ok (.aload_n 0, 1) := by decide +kernel
theorem ddX5_grantLeave_46 : decode cX5_grantLeave 46 = .ok (.iload_n 2, 1) := by decide +kernel
theorem ddX5_grantLeave_47 : decode cX5_grantLeave 47 = .ok (.aload_n 0, 1) := by decide +kernel
theorem ddX5_grantLeave_48 : decode cX5_grantLeave 48 = .ok (.getfield 7, 3) := by decide +kernel
theorem ddX5_grantLeave_51 : decode cX5_grantLeave 51 = .ok (.iconst 2, 1) := by decide +kernel
theorem ddX5_grantLeave_52 : decode cX5_grantLeave 52 = .ok (.iaload, 1) := by decide +kernel
theorem ddX5_grantLeave_53 : decode cX5_grantLeave 53 = .ok (.if_icmp .ge 7, 3) := by decide +kernel
theorem ddX5_grantLeave_56 : decode cX5_grantLeave 56 = .ok (.iconst 3, 1) := by decide +kernel
theorem ddX5_grantLeave_57 : decode cX5_grantLeave 57 = .ok (.goto 4, 3) := by decide +kernel
theorem ddX5_grantLeave_60 : decode cX5_grantLeave 60 = .ok (.iconst 0, 1) := by decide +kernel
theorem ddX5_grantLeave_61 : decode cX5_grantLeave 61 = .ok (.invokevirtual 71, 3) := by decide +kernel
theorem ddX5_grantLeave_64 : decode cX5_grantLeave 64 = .ok (.ifCond .eq 5, 3) := by decide +kernel
theorem ddX5_grantLeave_67 : decode cX5_grantLeave 67 = .ok (.iconst 0, 1) := by decide +kernel
theorem ddX5_grantLeave_68 : decode cX5_grantLeave 68 = .ok (.ireturn, 1) := by decide +kernel
theorem ddX5_grantLeave_69 : decode cX5_grantLeave 69 = .ok (.iconst 0, 1) := by decide +kernel
theorem ddX5_grantLeave_70 : decode cX5_grantLeave 70 = .ok (.istore 4, 2) := by decide +kernel
theorem ddX5_grantLeave_72 : decode cX5_grantLeave 72 = .ok (.iload_n 3, 1) := by decide +kernel
theorem ddX5_grantLeave_73 : decode cX5_grantLeave 73 = .ok (.istore 5, 2) := by decide +kernel
theorem ddX5_grantLeave_75 : decode cX5_grantLeave 75 = .ok (.iload 5, 2) := by decide +kernel
theorem ddX5_grantLeave_77 : decode cX5_grantLeave 77 = .ok (.iload_n 2, 1) := by decide +kernel
theorem ddX5_grantLeave_78 : decode cX5_grantLeave 78 = .ok (.if_icmp .lt 52, 3) := by decide +kernel
theorem ddX5_grantLeave_81 : decode cX5_grantLeave 81 = .ok (.iload 4, 2) := by decide +kernel
theorem ddX5_grantLeave_83 : decode cX5_grantLeave 83 = .ok (.iconst 1, 1) := by decide +kernel
theorem ddX5_grantLeave_84 : decode cX5_grantLeave 84 = .ok (.iload 5, 2) := by decide +kernel
theorem ddX5_grantLeave_86 : decode cX5_grantLeave 86 = .ok (.ishl, 1) := by decide +kernel
theorem ddX5_grantLeave_87 : decode cX5_grantLeave 87 = .ok (.ior, 1) := by decide +kernel
theorem ddX5_grantLeave_88 : decode cX5_grantLeave 88 = .ok (.istore 4, 2) := by decide +kernel
theorem ddX5_grantLeave_90 : decode cX5_grantLeave 90 = .ok (.aload_n 0, 1) := by decide +kernel
theorem ddX5_grantLeave_91 : decode cX5_grantLeave 91 = .ok (.iload_n 1, 1) := by decide +kernel
theorem ddX5_grantLeave_92 : decode cX5_grantLeave 92 = .ok (.iload 5, 2) := by decide +kernel
theorem ddX5_grantLeave_94 : decode cX5_grantLeave 94 = .ok (.invokevirtual 95, 3) := by decide +kernel
theorem ddX5_grantLeave_97 : decode cX5_grantLeave 97 = .ok (.ifCond .ge 6, 3) := by decide +kernel
theorem ddX5_grantLeave_100 : decode cX5_grantLeave 100 = .ok (.goto 24, 3) := by decide +kernel
theorem ddX5_grantLeave_103 : decode cX5_grantLeave 103 = .ok (.aload_n 0, 1) := by decide +kernel
theorem ddX5_grantLeave_104 : decode cX5_grantLeave 104 = .ok (.iconst 4, 1) := by decide +kernel
theorem ddX5_grantLeave_105 : decode cX5_grantLeave 105 = .ok (.putfield 102, 3) := by decide +kernel
theorem ddX5_grantLeave_108 : decode cX5_grantLeave 108 = .ok (.aload_n 0, 1) := by decide +kernel
theorem ddX5_grantLeave_109 : decode cX5_grantLeave 109 = .ok (.aload_n 0, 1) := by decide +kernel
theorem ddX5_grantLeave_110 : decode cX5_grantLeave 110 = .ok (.iload_n 1, 1) := by decide +kernel
theorem ddX5_grantLeave_111 : decode cX5_grantLeave 111 = .ok (.iload 5, 2) := by decide +kernel
theorem ddX5_grantLeave_113 : decode cX5_grantLeave 113 = .ok (.invokevirtual 95, 3) := by decide +kernel
theorem ddX5_grantLeave_116 : decode cX5_grantLeave 116 = .ok (.putfield 105, 3) := by decide +kernel
theorem ddX5_grantLeave_119 : decode cX5_grantLeave 119 = .ok (.aload_n 0, 1) := by decide +kernel
theorem ddX5_grantLeave_120 : decode cX5_grantLeave 120 = .ok (.iconst 4, 1) := by decide +kernel
theorem ddX5_grantLeave_121 : decode cX5_grantLeave 121 = .ok (.putfield 42, 3) := by decide +kernel
theorem ddX5_grantLeave_124 : decode cX5_grantLeave 124 = .ok (.iinc 5 (-1), 3) := by decide +kernel
theorem ddX5_grantLeave_127 : decode cX5_grantLeave 127 = .ok (.goto (-52), 3) := by decide +kernel
theorem ddX5_grantLeave_130 : decode cX5_grantLeave 130 = .ok (.aload_n 0, 1) := by decide +kernel
theorem ddX5_grantLeave_131 : decode cX5_grantLeave 131 = .ok (.getfield 42, 3) := by decide +kernel
theorem ddX5_grantLeave_134 : decode cX5_grantLeave 134 = .ok (.ifCond .le 5, 3) := by decide +kernel
theorem ddX5_grantLeave_137 : decode cX5_grantLeave 137 = .ok (.iconst 0, 1) := by decide +kernel
theorem ddX5_grantLeave_138 : decode cX5_grantLeave 138 = .ok (.ireturn, 1) := by decide +kernel
theorem ddX5_grantLeave_139 : decode cX5_grantLeave 139 = .ok (.aload_n 0, 1) := by decide +kernel
theorem ddX5_grantLeave_140 : decode cX5_grantLeave 140 = .ok (.getfield 7, 3) := by decide +kernel
theorem ddX5_grantLeave_143 : decode cX5_grantLeave 143 = .ok (.bipush 29, 2) := by decide +kernel
theorem ddX5_grantLeave_145 : decode cX5_grantLeave 145 = .ok (.iload_n 1, 1) := by decide +kernel
theorem ddX5_grantLeave_146 : decode cX5_grantLeave 146 = .ok (.iadd, 1) := by decide +kernel
theorem ddX5_grantLeave_147 : decode cX5_grantLeave 147 = .ok (.iaload, 1) := by decide +kernel
theorem ddX5_grantLeave_148 : decode cX5_grantLeave 148 = .ok (.invokestatic 147, 3) := by decide +kernel
theorem ddX5_grantLeave_151 : decode cX5_grantLeave 151 = .ok (.istore 5, 2) := by decide +kernel
theorem ddX5_grantLeave_153 : decode cX5_grantLeave 153 = .ok (.aload_n 0, 1) := by decide +kernel
theorem ddX5_grantLeave_154 : decode cX5_grantLeave 154 = .ok (.aload_n 0, 1) := by decide +kernel
theorem ddX5_grantLeave_155 : decode cX5_grantLeave 155 = .ok (.getfield 7, 3) := by decide +kernel
theorem ddX5_grantLeave_158 : decode cX5_grantLeave 158 = .ok (.invokevirtual 74, 3) := by decide +kernel
theorem ddX5_grantLeave_161 : decode cX5_grantLeave 161 = .ok (.aload_n 0, 1) := by decide +kernel
theorem ddX5_grantLeave_162 : decode cX5_grantLeave 162 = .ok (.getfield 7, 3) := by decide +kernel
theorem ddX5_grantLeave_165 : decode cX5_grantLeave 165 = .ok (.bipush 29, 2) := by decide +kernel
theorem ddX5_grantLeave_167 : decode cX5_grantLeave 167 = .ok (.iload_n 1, 1) := by decide +kernel
theorem ddX5_grantLeave_168 : decode cX5_grantLeave 168 = .ok (.iadd, 1) := by decide +kernel
theorem ddX5_grantLeave_169 : decode cX5_grantLeave 169 = .ok (.dup2, 1) := by decide +kernel
theorem ddX5_grantLeave_170 : decode cX5_grantLeave 170 = .ok (.iaload, 1) := by decide +kernel
theorem ddX5_grantLeave_171 : decode cX5_grantLeave 171 = .ok (.iload 4, 2) := by decide +kernel
theorem ddX5_grantLeave_173 : decode cX5_grantLeave 173 = .ok (.ior, 1) := by decide +kernel
theorem ddX5_grantLeave_174 : decode cX5_grantLeave 174 = .ok (.iastore, 1) := by decide +kernel
theorem ddX5_grantLeave_175 : decode cX5_grantLeave 175 = .ok (.aload_n 0, 1) := by decide +kernel
theorem ddX5_grantLeave_176 : decode cX5_grantLeave 176 = .ok (.getfield 7, 3) := by decide +kernel
theorem ddX5_grantLeave_179 : decode cX5_grantLeave 179 = .ok (.bipush 29, 2) := by decide +kernel
theorem ddX5_grantLeave_181 : decode cX5_grantLeave 181 = .ok (.iload_n 1, 1) := by decide +kernel
theorem ddX5_grantLeave_182 : decode cX5_grantLeave 182 = .ok (.iadd, 1) := by decide +kernel
theorem ddX5_grantLeave_183 : decode cX5_grantLeave 183 = .ok (.iaload, 1) := by decide +kernel
theorem ddX5_grantLeave_184 : decode cX5_grantLeave 184 = .ok (.invokestatic 147, 3) := by decide +kernel
theorem ddX5_grantLeave_187 : decode cX5_grantLeave 187 = .ok (.iload 5, 2) := by decide +kernel
theorem ddX5_grantLeave_189 : decode cX5_grantLeave 189 = .ok (.isub, 1) := by decide +kernel
theorem ddX5_grantLeave_190 : decode cX5_grantLeave 190 = .ok (.ireturn, 1) := by decide +kernel
theorem ddX5_endLeave_0 : decode cX5_endLeave 0 = .ok (.aload_n 0, 1) := by decide +kernel
theorem ddX5_endLeave_1 : decode cX5_endLeave 1 = .ok (.aload_n 0, 1) := by decide +kernel
theorem ddX5_endLeave_2 : decode cX5_endLeave 2 = .ok (.iload_n 1, 1) := by decide +kernel
theorem ddX5_endLeave_3 : decode cX5_endLeave 3 = .ok (.invokevirtual 78, 3) := by decide +kernel
theorem ddX5_endLeave_6 : decode cX5_endLeave 6 = .ok (.ifCond .eq 10, 3) := by decide +kernel
theorem ddX5_endLeave_9 : decode cX5_endLeave 9 = .ok (.iload_n 2, 1) := by decide +kernel
theorem ddX5_endLeave_10 : decode cX5_endLeave 10 = .ok (.invokestatic 64, 3) := by decide +kernel
theorem ddX5_endLeave_13 : decode cX5_endLeave 13 = .ok (.ifCond .ne 7, 3) := by decide +kernel
theorem ddX5_endLeave_16 : decode cX5_endLeave 16 = .ok (.iconst 1, 1) := by decide +kernel
theorem ddX5_endLeave_17 : decode cX5_endLeave 17 = .ok (.goto 17, 3) := by decide +kernel
theorem ddX5_endLeave_20 : decode cX5_endLeave 20 = .ok (.aload_n 0, 1) := by decide +kernel
theorem ddX5_endLeave_21 : decode cX5_endLeave 21 = .ok (.iload_n 1, 1) := by decide +kernel
theorem ddX5_endLeave_22 : decode cX5_endLeave 22 = .ok (.iload_n 2, 1) := by decide +kernel
theorem ddX5_endLeave_23 : decode cX5_endLeave 23 = .ok (.invokevirtual 91, 3) := by decide +kernel
theorem ddX5_endLeave_26 : decode cX5_endLeave 26 = .ok (.ifCond .eq 7, 3) := by decide +kernel
theorem ddX5_endLeave_29 : decode cX5_endLeave 29 = .ok (.iconst 0, 1) := by decide +kernel
theorem ddX5_endLeave_30 : decode cX5_endLeave 30 = .ok (.goto 4, 3) := by decide +kernel
theorem ddX5_endLeave_33 : decode cX5_endLeave 33 = .ok (.iconst 2, 1) := by decide +kernel
theorem ddX5_endLeave_34 : decode cX5_endLeave 34 = .ok (.invokevirtual 71, 3) := by decide +kernel
theorem ddX5_endLeave_37 : decode cX5_endLeave 37 = .ok (.ifCond .eq 5, 3) := by decide +kernel
theorem ddX5_endLeave_40 : decode cX5_endLeave 40 = .ok (.iconst 0, 1) := by decide +kernel
theorem ddX5_endLeave_41 : decode cX5_endLeave 41 = .ok (.ireturn, 1) := by decide +kernel
theorem ddX5_endLeave_42 : decode cX5_endLeave 42 = .ok (.aload_n 0, 1) := by decide +kernel
theorem ddX5_endLeave_43 : decode cX5_endLeave 43 = .ok (.aload_n 0, 1) := by decide +kernel
theorem ddX5_endLeave_44 : decode cX5_endLeave 44 = .ok (.getfield 7, 3) := by decide +kernel
theorem ddX5_endLeave_47 : decode cX5_endLeave 47 = .ok (.invokevirtual 74, 3) := by decide +kernel
theorem ddX5_endLeave_50 : decode cX5_endLeave 50 = .ok (.aload_n 0, 1) := by decide +kernel
theorem ddX5_endLeave_51 : decode cX5_endLeave 51 = .ok (.getfield 7, 3) := by decide +kernel
theorem ddX5_endLeave_54 : decode cX5_endLeave 54 = .ok (.bipush 29, 2) := by decide +kernel
theorem ddX5_endLeave_56 : decode cX5_endLeave 56 = .ok (.iload_n 1, 1) := by decide +kernel
theorem ddX5_endLeave_57 : decode cX5_endLeave 57 = .ok (.iadd, 1) := by decide +kernel
theorem ddX5_endLeave_58 : decode cX5_endLeave 58 = .ok (.dup2, 1) := by decide +kernel
theorem ddX5_endLeave_59 : decode cX5_endLeave 59 = .ok (.iaload, 1) := by decide +kernel
theorem ddX5_endLeave_60 : decode cX5_endLeave 60 = .ok (.iconst 1, 1) := by decide +kernel
theorem ddX5_endLeave_61 : decode cX5_endLeave 61 = .ok (.iload_n 2, 1) := by decide +kernel
theorem ddX5_endLeave_62 : decode cX5_endLeave 62 = .ok (.ishl, 1) := by decide +kernel
theorem ddX5_endLeave_63 : decode cX5_endLeave 63 = .ok (.iconst (-1), 1) := by decide +kernel
theorem ddX5_endLeave_64 : decode cX5_endLeave 64 = .ok (.ixor, 1) := by decide +kernel
theorem ddX5_endLeave_65 : decode cX5_endLeave 65 = .ok (.iand, 1) := by decide +kernel
theorem ddX5_endLeave_66 : decode cX5_endLeave 66 = .ok (.iastore, 1) := by decide +kernel
theorem ddX5_endLeave_67 : decode cX5_endLeave 67 = .ok (.aload_n 0, 1) := by decide +kernel
theorem ddX5_endLeave_68 : decode cX5_endLeave 68 = .ok (.getfield 7, 3) := by decide +kernel
theorem ddX5_endLeave_71 : decode cX5_endLeave 71 = .ok (.bipush 29, 2) := by decide +kernel
theorem ddX5_endLeave_73 : decode cX5_endLeave 73 = .ok (.iload_n 1, 1) := by decide +kernel
theorem ddX5_endLeave_74 : decode cX5_endLeave 74 = .ok (.iadd, 1) := by decide +kernel
theorem ddX5_endLeave_75 : decode cX5_endLeave 75 = .ok (.iaload, 1) := by decide +kernel
theorem ddX5_endLeave_76 : decode cX5_endLeave 76 = .ok (.invokestatic 147, 3) := by decide +kernel
theorem ddX5_endLeave_79 : decode cX5_endLeave 79 = .ok (.ireturn, 1) := by decide +kernel
theorem ddX5_isOnLeave_0 : decode cX5_isOnLeave 0 = .ok (.aload_n 0, 1) := by decide +kernel
theorem ddX5_isOnLeave_1 : decode cX5_isOnLeave 1 = .ok (.aload_n 0, 1) := by decide +kernel
theorem ddX5_isOnLeave_2 : decode cX5_isOnLeave 2 = .ok (.iload_n 1, 1) := by decide +kernel
theorem ddX5_isOnLeave_3 : decode cX5_isOnLeave 3 = .ok (.invokevirtual 78, 3) := by decide +kernel
theorem ddX5_isOnLeave_6 : decode cX5_isOnLeave 6 = .ok (.ifCond .eq 14, 3) := by decide +kernel
theorem ddX5_isOnLeave_9 : decode cX5_isOnLeave 9 = .ok (.iload_n 2, 1) := by decide +kernel
theorem ddX5_isOnLeave_10 : decode cX5_isOnLeave 10 = .ok (.invokestatic 64, 3) := by decide +kernel
theorem ddX5_isOnLeave_13 : decode cX5_isOnLeave 13 = .ok (.ifCond .eq 7, 3) := by decide +kernel
theorem ddX5_isOnLeave_16 : decode cX5_isOnLeave 16 = .ok (.iconst 0, 1) := by decide +kernel
theorem ddX5_isOnLeave_17 : decode cX5_isOnLeave 17 = .ok (.goto 4, 3) := by decide +kernel
theorem ddX5_isOnLeave_20 : decode cX5_isOnLeave 20 = .ok (.iconst 1, 1) := by decide +kernel
theorem ddX5_isOnLeave_21 : decode cX5_isOnLeave 21 = .ok (.invokevirtual 71, 3) := by decide +kernel
theorem ddX5_isOnLeave_24 : decode cX5_isOnLeave 24 = .ok (.ifCond .ne 16, 3) := by decide +kernel
theorem ddX5_isOnLeave_27 : decode cX5_isOnLeave 27 = .ok (.aload_n 0, 1) := by decide +kernel
theorem ddX5_isOnLeave_28 : decode cX5_isOnLeave 28 = .ok (.iload_n 1, 1) := by decide +kernel
theorem ddX5_isOnLeave_29 : decode cX5_isOnLeave 29 = .ok (.iload_n 2, 1) := by decide +kernel
theorem ddX5_isOnLeave_30 : decode cX5_isOnLeave 30 = .ok (.invokevirtual 91, 3) := by decide +kernel
theorem ddX5_isOnLeave_33 : decode cX5_isOnLeave 33 = .ok (.ifCond .eq 7, 3) := by decide +kernel
theorem ddX5_isOnLeave_36 : decode cX5_isOnLeave 36 = .ok (.iconst 1, 1) := by decide +kernel
theorem ddX5_isOnLeave_37 : decode cX5_isOnLeave 37 = .ok (.goto 4, 3) := by decide +kernel
theorem ddX5_isOnLeave_40 : decode cX5_isOnLeave 40 = .ok (.iconst 0, 1) := by decide +kernel
theorem ddX5_isOnLeave_41 : decode cX5_isOnLeave 41 = .ok (.ireturn, 1) := by decide +kernel
theorem ddX5_leaveSlots_0 : decode cX5_leaveSlots 0 = .ok (.aload_n 0, 1) := by decide +kernel
theorem ddX5_leaveSlots_1 : decode cX5_leaveSlots 1 = .ok (.iload_n 1, 1) := by decide +kernel
theorem ddX5_leaveSlots_2 : decode cX5_leaveSlots 2 = .ok (.invokevirtual 81, 3) := by decide +kernel
theorem ddX5_leaveSlots_5 : decode cX5_leaveSlots 5 = .ok (.ifCond .eq 7, 3) := by decide +kernel
theorem ddX5_leaveSlots_8 : decode cX5_leaveSlots 8 = .ok (.iconst 0, 1) := by decide +kernel
theorem ddX5_leaveSlots_9 : decode cX5_leaveSlots 9 = .ok (.goto 15, 3) := by decide +kernel
theorem ddX5_leaveSlots_12 : decode cX5_leaveSlots 12 = .ok (.aload_n 0, 1) := by decide +kernel
theorem ddX5_leaveSlots_13 : decode cX5_leaveSlots 13 = .ok (.getfield 7, 3) := by decide +kernel
theorem ddX5_leaveSlots_16 : decode cX5_leaveSlots 16 = .ok (.bipush 29, 2) := by decide +kernel
theorem ddX5_leaveSlots_18 : decode cX5_leaveSlots 18 = .ok (.iload_n 1, 1) := by decide +kernel
theorem ddX5_leaveSlots_19 : decode cX5_leaveSlots 19 = .ok (.iadd, 1) := by decide +kernel
theorem ddX5_leaveSlots_20 : decode cX5_leaveSlots 20 = .ok (.iaload, 1) := by decide +kernel
theorem ddX5_leaveSlots_21 : decode cX5_leaveSlots 21 = .ok (.invokestatic 147, 3) := by decide +kernel
theorem ddX5_leaveSlots_24 : decode cX5_leaveSlots 24 = .ok (.ireturn, 1) := by decide +kernel
theorem ddX5_addRations_0 : decode cX5_addRations 0 = .ok (.aload_n 0, 1) := by decide +kernel
theorem ddX5_addRations_1 : decode cX5_addRations 1 = .ok (.iload_n 1, 1) := by decide +kernel
theorem ddX5_addRations_2 : decode cX5_addRations 2 = .ok (.iconst 1, 1) := by decide +kernel
theorem ddX5_addRations_3 : decode cX5_addRations 3 = .ok (.bipush 50, 2) := by decide +kernel
theorem ddX5_addRations_5 : decode cX5_addRations 5 = .ok (.invokestatic 56, 3) := by decide +kernel
theorem ddX5_addRations_8 : decode cX5_addRations 8 = .ok (.ifCond .ne 7, 3) := by decide +kernel
theorem ddX5_addRations_11 : decode cX5_addRations 11 = .ok (.iconst 1, 1) := by decide +kernel
theorem ddX5_addRations_12 : decode cX5_addRations 12 = .ok (.goto 21, 3) := by decide +kernel
theorem ddX5_addRations_15 : decode cX5_addRations 15 = .ok (.aload_n 0, 1) := by decide +kernel
theorem ddX5_addRations_16 : decode cX5_addRations 16 = .ok (.getfield 7, 3) := by decide +kernel
theorem ddX5_addRations_19 : decode cX5_addRations 19 = .ok (.iconst 3, 1) := by decide +kernel
theorem ddX5_addRations_20 : decode cX5_addRations 20 = .ok (.iaload, 1) := by decide +kernel
theorem ddX5_addRations_21 : decode cX5_addRations 21 = .ok (.iload_n 1, 1) := by decide +kernel
theorem ddX5_addRations_22 : decode cX5_addRations 22 = .ok (.iadd, 1) := by decide +kernel
theorem ddX5_addRations_23 : decode cX5_addRations 23 = .ok (.bipush 99, 2) := by decide +kernel
theorem ddX5_addRations_25 : decode cX5_addRations 25 = .ok (.if_icmp .le 7, 3) := by decide +kernel
theorem ddX5_addRations_28 : decode cX5_addRations 28 = .ok (.iconst 2, 1) := by decide +kernel
theorem ddX5_addRations_29 : decode cX5_addRations 29 = .ok (.goto 4, 3) := by decide +kernel
theorem ddX5_addRations_32 : decode cX5_addRations 32 = .ok (.iconst 0, 1) := by decide +kernel
theorem ddX5_addRations_33 : decode cX5_addRations 33 = .ok (.invokevirtual 71, 3) := by decide +kernel
theorem ddX5_addRations_36 : decode cX5_addRations 36 = .ok (.ifCond .eq 5, 3) := by decide +kernel
theorem ddX5_addRations_39 : decode cX5_addRations 39 = .ok (.iconst 0, 1) := by decide +kernel
theorem ddX5_addRations_40 : decode cX5_addRations 40 = .ok (.ireturn, 1) := by decide +kernel
theorem ddX5_addRations_41 : decode cX5_addRations 41 = .ok (.aload_n 0, 1) := by decide +kernel
theorem ddX5_addRations_42 : decode cX5_addRations 42 = .ok (.aload_n 0, 1) := by decide +kernel
theorem ddX5_addRations_43 : decode cX5_addRations 43 = .ok (.getfield 7, 3) := by decide +kernel
theorem ddX5_addRations_46 : decode cX5_addRations 46 = .ok (.invokevirtual 74, 3) := by decide +kernel
theorem ddX5_addRations_49 : decode cX5_addRations 49 = .ok (.aload_n 0, 1) := by decide +kernel
theorem ddX5_addRations_50 : decode cX5_addRations 50 = .ok (.getfield 7, 3) := by decide +kernel
theorem ddX5_addRations_53 : decode cX5_addRations 53 = .ok (.iconst 3, 1) := by decide +kernel
theorem ddX5_addRations_54 : decode cX5_addRations 54 = .ok (.dup2, 1) := by decide +kernel
theorem ddX5_addRations_55 : decode cX5_addRations 55 = .ok (.iaload, 1) := by decide +kernel
theorem ddX5_addRations_56 : decode cX5_addRations 56 = .ok (.iload_n 1, 1) := by decide +kernel
theorem ddX5_addRations_57 : decode cX5_addRations 57 = .ok (.iadd, 1) := by decide +kernel
theorem ddX5_addRations_58 : decode cX5_addRations 58 = .ok (.iastore, 1) := by decide +kernel
theorem ddX5_addRations_59 : decode cX5_addRations 59 = .ok (.aload_n 0, 1) := by decide +kernel
theorem ddX5_addRations_60 : decode cX5_addRations 60 = .ok (.getfield 7, 3) := by decide +kernel
theorem ddX5_addRations_63 : decode cX5_addRations 63 = .ok (.iconst 3, 1) := by decide +kernel
theorem ddX5_addRations_64 : decode cX5_addRations 64 = .ok (.iaload, 1) := by decide +kernel
theorem ddX5_addRations_65 : decode cX5_addRations 65 = .ok (.ireturn, 1) := by decide +kernel
theorem ddX5_goes_0 : decode cX5_goes 0 = .ok (.iconst 0, 1) := by decide +kernel
theorem ddX5_goes_1 : decode cX5_goes 1 = .ok (.istore_n 1, 1) := by decide +kernel
theorem ddX5_goes_2 : decode cX5_goes 2 = .ok (.iconst 0, 1) := by decide +kernel
theorem ddX5_goes_3 : decode cX5_goes 3 = .ok (.istore_n 2, 1) := by decide +kernel
theorem ddX5_goes_4 : decode cX5_goes 4 = .ok (.iload_n 2, 1) := by decide +kernel
theorem ddX5_goes_5 : decode cX5_goes 5 = .ok (.aload_n 0, 1) := by decide +kernel
theorem ddX5_goes_6 : decode cX5_goes 6 = .ok (.getfield 7, 3) := by decide +kernel
theorem ddX5_goes_9 : decode cX5_goes 9 = .ok (.iconst 0, 1) := by decide +kernel
theorem ddX5_goes_10 : decode cX5_goes 10 = .ok (.iaload, 1) := by decide +kernel
theorem ddX5_goes_11 : decode cX5_goes 11 = .ok (.if_icmp .ge 70, 3) := by decide +kernel
theorem ddX5_goes_14 : decode cX5_goes 14 = .ok (.aload_n 0, 1) := by decide +kernel
theorem ddX5_goes_15 : decode cX5_goes 15 = .ok (.iload_n 2, 1) := by decide +kernel
theorem ddX5_goes_16 : decode cX5_goes 16 = .ok (.aload_n 0, 1) := by decide +kernel
theorem ddX5_goes_17 : decode cX5_goes 17 = .ok (.getfield 7, 3) := by decide +kernel
theorem ddX5_goes_20 : decode cX5_goes 20 = .ok (.iconst 2, 1) := by decide +kernel
theorem ddX5_goes_21 : decode cX5_goes 21 = .ok (.iaload, 1) := by decide +kernel
theorem ddX5_goes_22 : decode cX5_goes 22 = .ok (.invokevirtual 67, 3) := by decide +kernel
theorem ddX5_goes_25 : decode cX5_goes 25 = .ok (.istore_n 3, 1) := by decide +kernel
theorem ddX5_goes_26 : decode cX5_goes 26 = .ok (.iload_n 3, 1) := by decide +kernel
theorem ddX5_goes_27 : decode cX5_goes 27 = .ok (.ifCond .ge 6, 3) := by decide +kernel
theorem ddX5_goes_30 : decode cX5_goes 30 = .ok (.goto 45, 3) := by decide +kernel
theorem ddX5_goes_33 : decode cX5_goes 33 = .ok (.aload_n 0, 1) := by decide +kernel
theorem ddX5_goes_34 : decode cX5_goes 34 = .ok (.getfield 7, 3) := by decide +kernel
theorem ddX5_goes_37 : decode cX5_goes 37 = .ok (.iconst 3, 1) := by decide +kernel
theorem ddX5_goes_38 : decode cX5_goes 38 = .ok (.iaload, 1) := by decide +kernel
theorem ddX5_goes_39 : decode cX5_goes 39 = .ok (.ifCond .le 16, 3) := by decide +kernel
theorem ddX5_goes_42 : decode cX5_goes 42 = .ok (.aload_n 0, 1) := by decide +kernel
theorem ddX5_goes_43 : decode cX5_goes 43 = .ok (.getfield 7, 3) := by decide +kernel
theorem ddX5_goes_46 : decode cX5_goes 46 = .ok (.iconst 3, 1) := by decide +kernel
theorem ddX5_goes_47 : decode cX5_goes 47 = .ok (.dup2, 1) := by decide +kernel
theorem ddX5_goes_48 : decode cX5_goes 48 = .ok (.iaload, 1) := by decide +kernel
theorem ddX5_goes_49 : decode cX5_goes 49 = .ok (.iconst 1, 1) := by decide +kernel
theorem ddX5_goes_50 : decode cX5_goes 50 = .ok (.isub, 1) := by decide +kernel
theorem ddX5_goes_51 : decode cX5_goes 51 = .ok (.iastore, 1) := by decide +kernel
theorem ddX5_goes_52 : decode cX5_goes 52 = .ok (.goto 23, 3) := by decide +kernel
theorem ddX5_goes_55 : decode cX5_goes 55 = .ok (.aload_n 0, 1) := by decide +kernel
theorem ddX5_goes_56 : decode cX5_goes 56 = .ok (.getfield 7, 3) := by decide +kernel
theorem ddX5_goes_59 : decode cX5_goes 59 = .ok (.bipush 9, 2) := by decide +kernel
theorem ddX5_goes_61 : decode cX5_goes 61 = .ok (.iconst 2, 1) := by decide +kernel
theorem ddX5_goes_62 : decode cX5_goes 62 = .ok (.iload_n 3, 1) := by decide +kernel
theorem ddX5_goes_63 : decode cX5_goes 63 = .ok (.imul, 1) := by decide +kernel
theorem ddX5_goes_64 : decode cX5_goes 64 = .ok (.iadd, 1) := by decide +kernel
theorem ddX5_goes_65 : decode cX5_goes 65 = .ok (.iconst 1, 1) := by decide +kernel
theorem ddX5_goes_66 : decode cX5_goes 66 = .ok (.iadd, 1) := by decide +kernel
theorem ddX5_goes_67 : decode cX5_goes 67 = .ok (.dup2, 1) := by decide +kernel
theorem ddX5_goes_68 : decode cX5_goes 68 = .ok (.iaload, 1) := by decide +kernel
theorem ddX5_goes_69 : decode cX5_goes 69 = .ok (.iconst 1, 1) := by decide +kernel
theorem ddX5_goes_70 : decode cX5_goes 70 = .ok (.iadd, 1) := by decide +kernel
theorem ddX5_goes_71 : decode cX5_goes 71 = .ok (.iastore, 1) := by decide +kernel
theorem ddX5_goes_72 : decode cX5_goes 72 = .ok (.iinc 1 1, 3) := by decide +kernel
theorem ddX5_goes_75 : decode cX5_goes 75 = .ok (.iinc 2 1, 3) := by decide +kernel
theorem ddX5_goes_78 : decode cX5_goes 78 = .ok (.goto (-74), 3) := by decide +kernel
theorem ddX5_goes_81 : decode cX5_goes 81 = .ok (.aload_n 0, 1) := by decide +kernel
theorem ddX5_goes_82 : decode cX5_goes 82 = .ok (.getfield 7, 3) := by decide +kernel
theorem ddX5_goes_85 : decode cX5_goes 85 = .ok (.iconst 2, 1) := by decide +kernel
theorem ddX5_goes_86 : decode cX5_goes 86 = .ok (.dup2, 1) := by decide +kernel
theorem ddX5_goes_87 : decode cX5_goes 87 = .ok (.iaload, 1) := by decide +kernel
theorem ddX5_goes_88 : decode cX5_goes 88 = .ok (.iconst 1, 1) := by decide +kernel
theorem ddX5_goes_89 : decode cX5_goes 89 = .ok (.iadd, 1) := by decide +kernel
theorem ddX5_goes_90 : decode cX5_goes 90 = .ok (.iastore, 1) := by decide +kernel
theorem ddX5_goes_91 : decode cX5_goes 91 = .ok (.iload_n 1, 1) := by decide +kernel
theorem ddX5_goes_92 : decode cX5_goes 92 = .ok (.ireturn, 1) := by decide +kernel
theorem ddX5_passSlots_0 : decode cX5_passSlots 0 = .ok (.aload_n 0, 1) := by decide +kernel
theorem ddX5_passSlots_1 : decode cX5_passSlots 1 = .ok (.iload_n 1, 1) := by decide +kernel
theorem ddX5_passSlots_2 : decode cX5_passSlots 2 = .ok (.iconst 1, 1) := by decide +kernel
theorem ddX5_passSlots_3 : decode cX5_passSlots 3 = .ok (.bipush 28, 2) := by decide +kernel
theorem ddX5_passSlots_5 : decode cX5_passSlots 5 = .ok (.invokestatic 56, 3) := by decide +kernel
theorem ddX5_passSlots_8 : decode cX5_passSlots 8 = .ok (.ifCond .ne 7, 3) := by decide +kernel
theorem ddX5_passSlots_11 : decode cX5_passSlots 11 = .ok (.iconst 1, 1) := by decide +kernel
theorem ddX5_passSlots_12 : decode cX5_passSlots 12 = .ok (.goto 21, 3) := by decide +kernel
theorem ddX5_passSlots_15 : decode cX5_passSlots 15 = .ok (.iload_n 1, 1) := by decide +kernel
theorem ddX5_passSlots_16 : decode cX5_passSlots 16 = .ok (.bipush 28, 2) := by decide +kernel
theorem ddX5_passSlots_18 : decode cX5_passSlots 18 = .ok (.aload_n 0, 1) := by decide +kernel
theorem ddX5_passSlots_19 : decode cX5_passSlots 19 = .ok (.getfield 7, 3) := by decide +kernel
theorem ddX5_passSlots_22 : decode cX5_passSlots 22 = .ok (.iconst 2, 1) := by decide +kernel
theorem ddX5_passSlots_23 : decode cX5_passSlots 23 = .ok (.iaload, 1) := by decide +kernel
theorem ddX5_passSlots_24 : decode cX5_passSlots 24 = .ok (.isub, 1) := by decide +kernel
theorem ddX5_passSlots_25 : decode cX5_passSlots 25 = .ok (.if_icmp .le 7, 3) := by decide +kernel
theorem ddX5_passSlots_28 : decode cX5_passSlots 28 = .ok (.iconst 2, 1) := by decide +kernel
theorem ddX5_passSlots_29 : decode cX5_passSlots 29 = .ok (.goto 4, 3) := by decide +kernel
theorem ddX5_passSlots_32 : decode cX5_passSlots 32 = .ok (.iconst 0, 1) := by decide +kernel
theorem ddX5_passSlots_33 : decode cX5_passSlots 33 = .ok (.invokevirtual 71, 3) := by decide +kernel
theorem ddX5_passSlots_36 : decode cX5_passSlots 36 = .ok (.ifCond .eq 5, 3) := by decide +kernel
theorem ddX5_passSlots_39 : decode cX5_passSlots 39 = .ok (.iconst 0, 1) := by decide +kernel
theorem ddX5_passSlots_40 : decode cX5_passSlots 40 = .ok (.ireturn, 1) := by decide +kernel
theorem ddX5_passSlots_41 : decode cX5_passSlots 41 = .ok (.aload_n 0, 1) := by decide +kernel
theorem ddX5_passSlots_42 : decode cX5_passSlots 42 = .ok (.aload_n 0, 1) := by decide +kernel
theorem ddX5_passSlots_43 : decode cX5_passSlots 43 = .ok (.getfield 7, 3) := by decide +kernel
theorem ddX5_passSlots_46 : decode cX5_passSlots 46 = .ok (.invokevirtual 74, 3) := by decide +kernel
theorem ddX5_passSlots_49 : decode cX5_passSlots 49 = .ok (.iconst 0, 1) := by decide +kernel
theorem ddX5_passSlots_50 : decode cX5_passSlots 50 = .ok (.istore_n 2, 1) := by decide +kernel
theorem ddX5_passSlots_51 : decode cX5_passSlots 51 = .ok (.iconst 0, 1) := by decide +kernel
theorem ddX5_passSlots_52 : decode cX5_passSlots 52 = .ok (.istore_n 3, 1) := by decide +kernel
theorem ddX5_passSlots_53 : decode cX5_passSlots 53 = .ok (.iload_n 3, 1) := by decide +kernel
theorem ddX5_passSlots_54 : decode cX5_passSlots 54 = .ok (.iload_n 1, 1) := by decide +kernel
theorem ddX5_passSlots_55 : decode cX5_passSlots 55 = .ok (.if_icmp .ge 16, 3) := by decide +kernel
theorem ddX5_passSlots_58 : decode cX5_passSlots 58 = .ok (.iload_n 2, 1) := by decide +kernel
theorem ddX5_passSlots_59 : decode cX5_passSlots 59 = .ok (.aload_n 0, 1) := by decide +kernel
theorem ddX5_passSlots_60 : decode cX5_passSlots 60 = .ok (.invokevirtual 150, 3) := by decide +kernel
theorem ddX5_passSlots_63 : decode cX5_passSlots 63 = .ok (.iadd, 1) := by decide +kernel
theorem ddX5_passSlots_64 : decode cX5_passSlots 64 = .ok (.istore_n 2, 1) := by decide +kernel
theorem ddX5_passSlots_65 : decode cX5_passSlots 65 = .ok (.iinc 3 1, 3) := by decide +kernel
theorem ddX5_passSlots_68 : decode cX5_passSlots 68 = .ok (.goto (-15), 3) := by decide +kernel
theorem ddX5_passSlots_71 : decode cX5_passSlots 71 = .ok (.iload_n 2, 1) := by decide +kernel
theorem ddX5_passSlots_72 : decode cX5_passSlots 72 = .ok (.ireturn, 1) := by decide +kernel
theorem ddX5_rations_0 : decode cX5_rations 0 = .ok (.aload_n 0, 1) := by decide +kernel
theorem ddX5_rations_1 : decode cX5_rations 1 = .ok (.iconst 0, 1) := by decide +kernel
theorem ddX5_rations_2 : decode cX5_rations 2 = .ok (.putfield 42, 3) := by decide +kernel
theorem ddX5_rations_5 : decode cX5_rations 5 = .ok (.aload_n 0, 1) := by decide +kernel
theorem ddX5_rations_6 : decode cX5_rations 6 = .ok (.getfield 7, 3) := by decide +kernel
theorem ddX5_rations_9 : decode cX5_rations 9 = .ok (.iconst 3, 1) := by decide +kernel
theorem ddX5_rations_10 : decode cX5_rations 10 = .ok (.iaload, 1) := by decide +kernel
theorem ddX5_rations_11 : decode cX5_rations 11 = .ok (.ireturn, 1) := by decide +kernel
theorem ddX5_currentSlot_0 : decode cX5_currentSlot 0 = .ok (.aload_n 0, 1) := by decide +kernel
theorem ddX5_currentSlot_1 : decode cX5_currentSlot 1 = .ok (.iconst 0, 1) := by decide +kernel
theorem ddX5_currentSlot_2 : decode cX5_currentSlot 2 = .ok (.putfield 42, 3) := by decide +kernel
theorem ddX5_currentSlot_5 : decode cX5_currentSlot 5 = .ok (.aload_n 0, 1) := by decide +kernel
theorem ddX5_currentSlot_6 : decode cX5_currentSlot 6 = .ok (.getfield 7, 3) := by decide +kernel
theorem ddX5_currentSlot_9 : decode cX5_currentSlot 9 = .ok (.iconst 2, 1) := by decide +kernel
theorem ddX5_currentSlot_10 : decode cX5_currentSlot 10 = .ok (.iaload, 1) := by decide +kernel
theorem ddX5_currentSlot_11 : decode cX5_currentSlot 11 = .ok (.ireturn, 1) := by decide +kernel
theorem ddX5_missingRations_0 : decode cX5_missingRations 0 = .ok (.aload_n 0, 1) := by decide +kernel
theorem ddX5_missingRations_1 : decode cX5_missingRations 1 = .ok (.iconst 0, 1) := by decide +kernel
theorem ddX5_missingRations_2 : decode cX5_missingRations 2 = .ok (.putfield 42, 3) := by decide +kernel
theorem ddX5_missingRations_5 : decode cX5_missingRations 5 = .ok (.iconst 0, 1) := by decide +kernel
theorem ddX5_missingRations_6 : decode cX5_missingRations 6 = .ok (.istore_n 1, 1) := by decide +kernel
theorem ddX5_missingRations_7 : decode cX5_missingRations 7 = .ok (.aload_n 0, 1) := by decide +kernel
theorem ddX5_missingRations_8 : decode cX5_missingRations 8 = .ok (.getfield 7, 3) := by decide +kernel
theorem ddX5_missingRations_11 : decode cX5_missingRations 11 = .ok (.iconst 2, 1) := by decide +kernel
theorem ddX5_missingRations_12 : decode cX5_missingRations 12 = .ok (.iaload, 1) := by decide +kernel
theorem ddX5_missingRations_13 : decode cX5_missingRations 13 = .ok (.istore_n 2, 1) := by decide +kernel
theorem ddX5_missingRations_14 : decode cX5_missingRations 14 = .ok (.iload_n 2, 1) := by decide +kernel
theorem ddX5_missingRations_15 : decode cX5_missingRations 15 = .ok (.bipush 28, 2) := by decide +kernel
theorem ddX5_missingRations_17 : decode cX5_missingRations 17 = .ok (.if_icmp .ge 24, 3) := by decide +kernel
theorem ddX5_missingRations_20 : decode cX5_missingRations 20 = .ok (.iload_n 1, 1) := by decide +kernel
theorem ddX5_missingRations_21 : decode cX5_missingRations 21 = .ok (.aload_n 0, 1) := by decide +kernel
theorem ddX5_missingRations_22 : decode cX5_missingRations 22 = .ok (.getfield 7, 3) := by decide +kernel
theorem ddX5_missingRations_25 : decode cX5_missingRations 25 = .ok (.iconst 0, 1) := by decide +kernel
theorem ddX5_missingRations_26 : decode cX5_missingRations 26 = .ok (.iaload, 1) := by decide +kernel
theorem ddX5_missingRations_27 : decode cX5_missingRations 27 = .ok (.aload_n 0, 1) := by decide +kernel
theorem ddX5_missingRations_28 : decode cX5_missingRations 28 = .ok (.iload_n 2, 1) := by decide +kernel
theorem ddX5_missingRations_29 : decode cX5_missingRations 29 = .ok (.invokevirtual 135, 3) := by decide +kernel
theorem ddX5_missingRations_32 : decode cX5_missingRations 32 = .ok (.isub, 1) := by decide +kernel
theorem ddX5_missingRations_33 : decode cX5_missingRations 33 = .ok (.iadd, 1) := by decide +kernel
theorem ddX5_missingRations_34 : decode cX5_missingRations 34 = .ok (.istore_n 1, 1) := by decide +kernel
theorem ddX5_missingRations_35 : decode cX5_missingRations 35 = .ok (.iinc 2 1, 3) := by decide +kernel
theorem ddX5_missingRations_38 : decode cX5_missingRations 38 = .ok (.goto (-24), 3) := by decide +kernel
theorem ddX5_missingRations_41 : decode cX5_missingRations 41 = .ok (.iload_n 1, 1) := by decide +kernel
theorem ddX5_missingRations_42 : decode cX5_missingRations 42 = .ok (.aload_n 0, 1) := by decide +kernel
theorem ddX5_missingRations_43 : decode cX5_missingRations 43 = .ok (.getfield 7, 3) := by decide +kernel
theorem ddX5_missingRations_46 : decode cX5_missingRations 46 = .ok (.iconst 3, 1) := by decide +kernel
theorem ddX5_missingRations_47 : decode cX5_missingRations 47 = .ok (.iaload, 1) := by decide +kernel
theorem ddX5_missingRations_48 : decode cX5_missingRations 48 = .ok (.if_icmp .le 14, 3) := by decide +kernel
theorem ddX5_missingRations_51 : decode cX5_missingRations 51 = .ok (.iload_n 1, 1) := by decide +kernel
theorem ddX5_missingRations_52 : decode cX5_missingRations 52 = .ok (.aload_n 0, 1) := by decide +kernel
theorem ddX5_missingRations_53 : decode cX5_missingRations 53 = .ok (.getfield 7, 3) := by decide +kernel
theorem ddX5_missingRations_56 : decode cX5_missingRations 56 = .ok (.iconst 3, 1) := by decide +kernel
theorem ddX5_missingRations_57 : decode cX5_missingRations 57 = .ok (.iaload, 1) := by decide +kernel
theorem ddX5_missingRations_58 : decode cX5_missingRations 58 = .ok (.isub, 1) := by decide +kernel
theorem ddX5_missingRations_59 : decode cX5_missingRations 59 = .ok (.goto 4, 3) := by decide +kernel
theorem ddX5_missingRations_62 : decode cX5_missingRations 62 = .ok (.iconst 0, 1) := by decide +kernel
theorem ddX5_missingRations_63 : decode cX5_missingRations 63 = .ok (.ireturn, 1) := by decide +kernel
theorem ddX5_refusalReason_0 : decode cX5_refusalReason 0 = .ok (.aload_n 0, 1) := by decide +kernel
theorem ddX5_refusalReason_1 : decode cX5_refusalReason 1 = .ok (.aload_n 0, 1) := by decide +kernel
theorem ddX5_refusalReason_2 : decode cX5_refusalReason 2 = .ok (.getfield 102, 3) := by decide +kernel
theorem ddX5_refusalReason_5 : decode cX5_refusalReason 5 = .ok (.ifCond .ne 7, 3) := by decide +kernel
theorem ddX5_refusalReason_8 : decode cX5_refusalReason 8 = .ok (.iconst 1, 1) := by decide +kernel
theorem ddX5_refusalReason_9 : decode cX5_refusalReason 9 = .ok (.goto 4, 3) := by decide +kernel
theorem ddX5_refusalReason_12 : decode cX5_refusalReason 12 = .ok (.iconst 0, 1) := by decide +kernel
theorem ddX5_refusalReason_13 : decode cX5_refusalReason 13 = .ok (.invokevirtual 71, 3) := by decide +kernel
theorem ddX5_refusalReason_16 : decode cX5_refusalReason 16 = .ok (.ifCond .eq 7, 3) := by decide +kernel
theorem ddX5_refusalReason_19 : decode cX5_refusalReason 19 = .ok (.iconst 0, 1) := by decide +kernel
theorem ddX5_refusalReason_20 : decode cX5_refusalReason 20 = .ok (.goto 7, 3) := by decide +kernel
theorem ddX5_refusalReason_23 : decode cX5_refusalReason 23 = .ok (.aload_n 0, 1) := by decide +kernel
theorem ddX5_refusalReason_24 : decode cX5_refusalReason 24 = .ok (.getfield 102, 3) := by decide +kernel
theorem ddX5_refusalReason_27 : decode cX5_refusalReason 27 = .ok (.ireturn, 1) := by decide +kernel
theorem ddX5_refusalDetail_0 : decode cX5_refusalDetail 0 = .ok (.aload_n 0, 1) := by decide +kernel
theorem ddX5_refusalDetail_1 : decode cX5_refusalDetail 1 = .ok (.aload_n 0, 1) := by decide +kernel
theorem ddX5_refusalDetail_2 : decode cX5_refusalDetail 2 = .ok (.getfield 102, 3) := by decide +kernel
theorem ddX5_refusalDetail_5 : decode cX5_refusalDetail 5 = .ok (.ifCond .ne 7, 3) := by decide +kernel
theorem ddX5_refusalDetail_8 : decode cX5_refusalDetail 8 = .ok (.iconst 1, 1) := by decide +kernel
theorem ddX5_refusalDetail_9 : decode cX5_refusalDetail 9 = .ok (.goto 4, 3) := by decide +kernel
theorem ddX5_refusalDetail_12 : decode cX5_refusalDetail 12 = .ok (.iconst 0, 1) := by decide +kernel
theorem ddX5_refusalDetail_13 : decode cX5_refusalDetail 13 = .ok (.invokevirtual 71, 3) := by decide +kernel
theorem ddX5_refusalDetail_16 : decode cX5_refusalDetail 16 = .ok (.ifCond .eq 7, 3) := by decide +kernel
theorem ddX5_refusalDetail_19 : decode cX5_refusalDetail 19 = .ok (.iconst 0, 1) := by decide +kernel
theorem ddX5_refusalDetail_20 : decode cX5_refusalDetail 20 = .ok (.goto 7, 3) := by decide +kernel
theorem ddX5_refusalDetail_23 : decode cX5_refusalDetail 23 = .ok (.aload_n 0, 1) := by decide +kernel
theorem ddX5_refusalDetail_24 : decode cX5_refusalDetail 24 = .ok (.getfield 105, 3) := by decide +kernel
theorem ddX5_refusalDetail_27 : decode cX5_refusalDetail 27 = .ok (.ireturn, 1) := by decide +kernel
theorem ddX5_meanDuties_0 : decode cX5_meanDuties 0 = .ok (.aload_n 0, 1) := by decide +kernel
theorem ddX5_meanDuties_1 : decode cX5_meanDuties 1 = .ok (.aload_n 0, 1) := by decide +kernel
theorem ddX5_meanDuties_2 : decode cX5_meanDuties 2 = .ok (.getfield 7, 3) := by decide +kernel
theorem ddX5_meanDuties_5 : decode cX5_meanDuties 5 = .ok (.iconst 1, 1) := by decide +kernel
theorem ddX5_meanDuties_6 : decode cX5_meanDuties 6 = .ok (.iaload, 1) := by decide +kernel
theorem ddX5_meanDuties_7 : decode cX5_meanDuties 7 = .ok (.ifCond .ne 7, 3) := by decide +kernel
theorem ddX5_meanDuties_10 : decode cX5_meanDuties 10 = .ok (.iconst 1, 1) := by decide +kernel
theorem ddX5_meanDuties_11 : decode cX5_meanDuties 11 = .ok (.goto 4, 3) := by decide +kernel
theorem ddX5_meanDuties_14 : decode cX5_meanDuties 14 = .ok (.iconst 0, 1) := by decide +kernel
theorem ddX5_meanDuties_15 : decode cX5_meanDuties 15 = .ok (.invokevirtual 71, 3) := by decide +kernel
theorem ddX5_meanDuties_18 : decode cX5_meanDuties 18 = .ok (.ifCond .eq 7, 3) := by decide +kernel
theorem ddX5_meanDuties_21 : decode cX5_meanDuties 21 = .ok (.dconst 0, 1) := by decide +kernel
theorem ddX5_meanDuties_22 : decode cX5_meanDuties 22 = .ok (.goto 16, 3) := by decide +kernel
theorem ddX5_meanDuties_25 : decode cX5_meanDuties 25 = .ok (.aload_n 0, 1) := by decide +kernel
theorem ddX5_meanDuties_26 : decode cX5_meanDuties 26 = .ok (.invokevirtual 131, 3) := by decide +kernel
theorem ddX5_meanDuties_29 : decode cX5_meanDuties 29 = .ok (.i2d, 1) := by decide +kernel
theorem ddX5_meanDuties_30 : decode cX5_meanDuties 30 = .ok (.aload_n 0, 1) := by decide +kernel
theorem ddX5_meanDuties_31 : decode cX5_meanDuties 31 = .ok (.getfield 7, 3) := by decide +kernel
theorem ddX5_meanDuties_34 : decode cX5_meanDuties 34 = .ok (.iconst 1, 1) := by decide +kernel
theorem ddX5_meanDuties_35 : decode cX5_meanDuties 35 = .ok (.iaload, 1) := by decide +kernel
theorem ddX5_meanDuties_36 : decode cX5_meanDuties 36 = .ok (.i2d, 1) := by decide +kernel
theorem ddX5_meanDuties_37 : decode cX5_meanDuties 37 = .ok (.ddiv, 1) := by decide +kernel
theorem ddX5_meanDuties_38 : decode cX5_meanDuties 38 = .ok (.dreturn, 1) := by decide +kernel
theorem ddX5_coveredFraction_0 : decode cX5_coveredFraction 0 = .ok (.aload_n 0, 1) := by decide +kernel
theorem ddX5_coveredFraction_1 : decode cX5_coveredFraction 1 = .ok (.aload_n 0, 1) := by decide +kernel
theorem ddX5_coveredFraction_2 : decode cX5_coveredFraction 2 = .ok (.getfield 7, 3) := by decide +kernel
theorem ddX5_coveredFraction_5 : decode cX5_coveredFraction 5 = .ok (.iconst 0, 1) := by decide +kernel
theorem ddX5_coveredFraction_6 : decode cX5_coveredFraction 6 = .ok (.iaload, 1) := by decide +kernel
theorem ddX5_coveredFraction_7 : decode cX5_coveredFraction 7 = .ok (.ifCond .ne 7, 3) := by decide +kernel
theorem ddX5_coveredFraction_10 : decode cX5_coveredFraction 10 = .ok (.iconst 1, 1) := by decide +kernel
theorem ddX5_coveredFraction_11 : decode cX5_coveredFraction 11 = .ok (.goto 4, 3) := by decide +kernel
theorem ddX5_coveredFraction_14 : decode cX5_coveredFraction 14 = .ok (.iconst 0, 1) := by decide +kernel
theorem ddX5_coveredFraction_15 : decode cX5_coveredFraction 15 = .ok (.invokevirtual 71, 3) := by decide +kernel
theorem ddX5_coveredFraction_18 : decode cX5_coveredFraction 18 = .ok (.ifCond .eq 7, 3) := by decide +kernel
theorem ddX5_coveredFraction_21 : decode cX5_coveredFraction 21 = .ok (.fconst 0, 1) := by decide +kernel
theorem ddX5_coveredFraction_22 : decode cX5_coveredFraction 22 = .ok (.goto 19, 3) := by decide +kernel
theorem ddX5_coveredFraction_25 : decode cX5_coveredFraction 25 = .ok (.aload_n 0, 1) := by decide +kernel
theorem ddX5_coveredFraction_26 : decode cX5_coveredFraction 26 = .ok (.invokevirtual 131, 3) := by decide +kernel
theorem ddX5_coveredFraction_29 : decode cX5_coveredFraction 29 = .ok (.i2f, 1) := by decide +kernel
theorem ddX5_coveredFraction_30 : decode cX5_coveredFraction 30 = .ok (.bipush 28, 2) := by decide +kernel
theorem ddX5_coveredFraction_32 : decode cX5_coveredFraction 32 = .ok (.aload_n 0, 1) := by decide +kernel
theorem ddX5_coveredFraction_33 : decode cX5_coveredFraction 33 = .ok (.getfield 7, 3) := by decide +kernel
theorem ddX5_coveredFraction_36 : decode cX5_coveredFraction 36 = .ok (.iconst 0, 1) := by decide +kernel
theorem ddX5_coveredFraction_37 : decode cX5_coveredFraction 37 = .ok (.iaload, 1) := by decide +kernel
theorem ddX5_coveredFraction_38 : decode cX5_coveredFraction 38 = .ok (.imul, 1) := by decide +kernel
theorem ddX5_coveredFraction_39 : decode cX5_coveredFraction 39 = .ok (.i2f, 1) := by decide +kernel
theorem ddX5_coveredFraction_40 : decode cX5_coveredFraction 40 = .ok (.fdiv, 1) := by decide +kernel
theorem ddX5_coveredFraction_41 : decode cX5_coveredFraction 41 = .ok (.freturn, 1) := by decide +kernel
theorem ddX5_writes_0 : decode cX5_writes 0 = .ok (.aload_n 0, 1) := by decide +kernel
theorem ddX5_writes_1 : decode cX5_writes 1 = .ok (.getfield 32, 3) := by decide +kernel
theorem ddX5_writes_4 : decode cX5_writes 4 = .ok (.aload_n 0, 1) := by decide +kernel
theorem ddX5_writes_5 : decode cX5_writes 5 = .ok (.getfield 153, 3) := by decide +kernel
theorem ddX5_writes_8 : decode cX5_writes 8 = .ok (.iload_n 1, 1) := by decide +kernel
theorem ddX5_writes_9 : decode cX5_writes 9 = .ok (.i2c, 1) := by decide +kernel
theorem ddX5_writes_10 : decode cX5_writes 10 = .ok (.castore, 1) := by decide +kernel
theorem ddX5_writes_11 : decode cX5_writes 11 = .ok (.aload_n 0, 1) := by decide +kernel
theorem ddX5_writes_12 : decode cX5_writes 12 = .ok (.dup, 1) := by decide +kernel
theorem ddX5_writes_13 : decode cX5_writes 13 = .ok (.getfield 153, 3) := by decide +kernel
theorem ddX5_writes_16 : decode cX5_writes 16 = .ok (.iconst 1, 1) := by decide +kernel
theorem ddX5_writes_17 : decode cX5_writes 17 = .ok (.iadd, 1) := by decide +kernel
theorem ddX5_writes_18 : decode cX5_writes 18 = .ok (.putfield 153, 3) := by decide +kernel
theorem ddX5_writes_21 : decode cX5_writes 21 = .ok (.return_, 1) := by decide +kernel
theorem ddX5_writeSlot_0 : decode cX5_writeSlot 0 = .ok (.aload_n 0, 1) := by decide +kernel
theorem ddX5_writeSlot_1 : decode cX5_writeSlot 1 = .ok (.iload_n 1, 1) := by decide +kernel
theorem ddX5_writeSlot_2 : decode cX5_writeSlot 2 = .ok (.invokestatic 64, 3) := by decide +kernel
theorem ddX5_writeSlot_5 : decode cX5_writeSlot 5 = .ok (.ifCond .eq 7, 3) := by decide +kernel
theorem ddX5_writeSlot_8 : decode cX5_writeSlot 8 = .ok (.iconst 0, 1) := by decide +kernel
theorem ddX5_writeSlot_9 : decode cX5_writeSlot 9 = .ok (.goto 4, 3) := by decide +kernel
theorem ddX5_writeSlot_12 : decode cX5_writeSlot 12 = .ok (.iconst 1, 1) := by decide +kernel
theorem ddX5_writeSlot_13 : decode cX5_writeSlot 13 = .ok (.invokevirtual 71, 3) := by decide +kernel
theorem ddX5_writeSlot_16 : decode cX5_writeSlot 16 = .ok (.ifCond .eq 5, 3) := by decide +kernel
theorem ddX5_writeSlot_19 : decode cX5_writeSlot 19 = .ok (.iconst 0, 1) := by decide +kernel
theorem ddX5_writeSlot_20 : decode cX5_writeSlot 20 = .ok (.ireturn, 1) := by decide +kernel
theorem ddX5_writeSlot_21 : decode cX5_writeSlot 21 = .ok (.aload_n 0, 1) := by decide +kernel
theorem ddX5_writeSlot_22 : decode cX5_writeSlot 22 = .ok (.iconst 0, 1) := by decide +kernel
theorem ddX5_writeSlot_23 : decode cX5_writeSlot 23 = .ok (.putfield 153, 3) := by decide +kernel
theorem ddX5_writeSlot_26 : decode cX5_writeSlot 26 = .ok (.aload_n 0, 1) := by decide +kernel
theorem ddX5_writeSlot_27 : decode cX5_writeSlot 27 = .ok (.iload_n 1, 1) := by decide +kernel
theorem ddX5_writeSlot_28 : decode cX5_writeSlot 28 = .ok (.iconst 2, 1) := by decide +kernel
theorem ddX5_writeSlot_29 : decode cX5_writeSlot 29 = .ok (.irem, 1) := by decide +kernel
theorem ddX5_writeSlot_30 : decode cX5_writeSlot 30 = .ok (.ifCond .ne 8, 3) := by decide +kernel
theorem ddX5_writeSlot_33 : decode cX5_writeSlot 33 = .ok (.bipush 100, 2) := by decide +kernel
theorem ddX5_writeSlot_35 : decode cX5_writeSlot 35 = .ok (.goto 5, 3) := by decide +kernel
theorem ddX5_writeSlot_38 : decode cX5_writeSlot 38 = .ok (.bipush 110, 2) := by decide +kernel
theorem ddX5_writeSlot_40 : decode cX5_writeSlot 40 = .ok (.invokevirtual 156, 3) := by decide +kernel
theorem ddX5_writeSlot_43 : decode cX5_writeSlot 43 = .ok (.iload_n 1, 1) := by decide +kernel
theorem ddX5_writeSlot_44 : decode cX5_writeSlot 44 = .ok (.bipush 19, 2) := by decide +kernel
theorem ddX5_writeSlot_46 : decode cX5_writeSlot 46 = .ok (.if_icmp .le 9, 3) := by decide +kernel
theorem ddX5_writeSlot_49 : decode cX5_writeSlot 49 = .ok (.aload_n 0, 1) := by decide +kernel
theorem ddX5_writeSlot_50 : decode cX5_writeSlot 50 = .ok (.bipush 49, 2) := by decide +kernel
theorem ddX5_writeSlot_52 : decode cX5_writeSlot 52 = .ok (.invokevirtual 156, 3) := by decide +kernel
theorem ddX5_writeSlot_55 : decode cX5_writeSlot 55 = .ok (.aload_n 0, 1) := by decide +kernel
theorem ddX5_writeSlot_56 : decode cX5_writeSlot 56 = .ok (.bipush 48, 2) := by decide +kernel
theorem ddX5_writeSlot_58 : decode cX5_writeSlot 58 = .ok (.iload_n 1, 1) := by decide +kernel
theorem ddX5_writeSlot_59 : decode cX5_writeSlot 59 = .ok (.iconst 2, 1) := by decide +kernel
theorem ddX5_writeSlot_60 : decode cX5_writeSlot 60 = .ok (.idiv, 1) := by decide +kernel
theorem ddX5_writeSlot_61 : decode cX5_writeSlot 61 = .ok (.bipush 10, 2) := by decide +kernel
theorem ddX5_writeSlot_63 : decode cX5_writeSlot 63 = .ok (.irem, 1) := by decide +kernel
theorem ddX5_writeSlot_64 : decode cX5_writeSlot 64 = .ok (.iadd, 1) := by decide +kernel
theorem ddX5_writeSlot_65 : decode cX5_writeSlot 65 = .ok (.invokevirtual 156, 3) := by decide +kernel
theorem ddX5_writeSlot_68 : decode cX5_writeSlot 68 = .ok (.aload_n 0, 1) := by decide +kernel
theorem ddX5_writeSlot_69 : decode cX5_writeSlot 69 = .ok (.bipush 58, 2) := by decide +kernel
theorem ddX5_writeSlot_71 : decode cX5_writeSlot 71 = .ok (.invokevirtual 156, 3) := by decide +kernel
theorem ddX5_writeSlot_74 : decode cX5_writeSlot 74 = .ok (.iconst 0, 1) := by decide +kernel
theorem ddX5_writeSlot_75 : decode cX5_writeSlot 75 = .ok (.istore_n 2, 1) := by decide +kernel
theorem ddX5_writeSlot_76 : decode cX5_writeSlot 76 = .ok (.iload_n 2, 1) := by decide +kernel
theorem ddX5_writeSlot_77 : decode cX5_writeSlot 77 = .ok (.aload_n 0, 1) := by decide +kernel
theorem ddX5_writeSlot_78 : decode cX5_writeSlot 78 = .ok (.getfield 7, 3) := by decide +kernel
theorem ddX5_writeSlot_81 : decode cX5_writeSlot 81 = .ok (.iconst 0, 1) := by decide +kernel
theorem ddX5_writeSlot_82 : decode cX5_writeSlot 82 = .ok (.iaload, 1) := by decide +kernel
theorem ddX5_writeSlot_83 : decode cX5_writeSlot 83 = .ok (.if_icmp .ge 42, 3) := by decide +kernel
theorem ddX5_writeSlot_86 : decode cX5_writeSlot 86 = .ok (.aload_n 0, 1) := by decide +kernel
theorem ddX5_writeSlot_87 : decode cX5_writeSlot 87 = .ok (.bipush 32, 2) := by decide +kernel
theorem ddX5_writeSlot_89 : decode cX5_writeSlot 89 = .ok (.invokevirtual 156, 3) := by decide +kernel
theorem ddX5_writeSlot_92 : decode cX5_writeSlot 92 = .ok (.aload_n 0, 1) := by decide +kernel
theorem ddX5_writeSlot_93 : decode cX5_writeSlot 93 = .ok (.aload_n 0, 1) := by decide +kernel
theorem ddX5_writeSlot_94 : decode cX5_writeSlot 94 = .ok (.iload_n 2, 1) := by decide +kernel
theorem ddX5_writeSlot_95 : decode cX5_writeSlot 95 = .ok (.iload_n 1, 1) := by decide +kernel
theorem ddX5_writeSlot_96 : decode cX5_writeSlot 96 = .ok (.invokevirtual 67, 3) := by decide +kernel
theorem ddX5_writeSlot_99 : decode cX5_writeSlot 99 = .ok (.ifCond .ge 8, 3) := by decide +kernel
theorem ddX5_writeSlot_102 : decode cX5_writeSlot 102 = .ok (.bipush 45, 2) := by decide +kernel
theorem ddX5_writeSlot_104 : decode cX5_writeSlot 104 = .ok (.goto 12, 3) := by decide +kernel
theorem ddX5_writeSlot_107 : decode cX5_writeSlot 107 = .ok (.bipush 48, 2) := by decide +kernel
theorem ddX5_writeSlot_109 : decode cX5_writeSlot 109 = .ok (.aload_n 0, 1) := by decide +kernel
theorem ddX5_writeSlot_110 : decode cX5_writeSlot 110 = .ok (.iload_n 2, 1) := by decide +kernel
theorem ddX5_writeSlot_111 : decode cX5_writeSlot 111 = .ok (.iload_n 1, 1) := by decide +kernel
theorem ddX5_writeSlot_112 : decode cX5_writeSlot 112 = .ok (.invokevirtual 67, 3) := by decide +kernel
theorem ddX5_writeSlot_115 : decode cX5_writeSlot 115 = .ok (.iadd, 1) := by decide +kernel
theorem ddX5_writeSlot_116 : decode cX5_writeSlot 116 = .ok (.invokevirtual 156, 3) := by decide +kernel
theorem ddX5_writeSlot_119 : decode cX5_writeSlot 119 = .ok (.iinc 2 1, 3) := by decide +kernel
theorem ddX5_writeSlot_122 : decode cX5_writeSlot 122 = .ok (.goto (-46), 3) := by decide +kernel
theorem ddX5_writeSlot_125 : decode cX5_writeSlot 125 = .ok (.aload_n 0, 1) := by decide +kernel
theorem ddX5_writeSlot_126 : decode cX5_writeSlot 126 = .ok (.getfield 153, 3) := by decide +kernel
theorem ddX5_writeSlot_129 : decode cX5_writeSlot 129 = .ok (.ireturn, 1) := by decide +kernel
theorem ddX5_writeGuard_0 : decode cX5_writeGuard 0 = .ok (.aload_n 0, 1) := by decide +kernel
theorem ddX5_writeGuard_1 : decode cX5_writeGuard 1 = .ok (.iload_n 1, 1) := by decide +kernel
theorem ddX5_writeGuard_2 : decode cX5_writeGuard 2 = .ok (.invokevirtual 81, 3) := by decide +kernel
theorem ddX5_writeGuard_5 : decode cX5_writeGuard 5 = .ok (.ifCond .eq 5, 3) := by decide +kernel
theorem ddX5_writeGuard_8 : decode cX5_writeGuard 8 = .ok (.iconst 0, 1) := by decide +kernel
theorem ddX5_writeGuard_9 : decode cX5_writeGuard 9 = .ok (.ireturn, 1) := by decide +kernel
theorem ddX5_writeGuard_10 : decode cX5_writeGuard 10 = .ok (.aload_n 0, 1) := by decide +kernel
theorem ddX5_writeGuard_11 : decode cX5_writeGuard 11 = .ok (.iconst 0, 1) := by decide +kernel
theorem ddX5_writeGuard_12 : decode cX5_writeGuard 12 = .ok (.putfield 153, 3) := by decide +kernel
theorem ddX5_writeGuard_15 : decode cX5_writeGuard 15 = .ok (.iconst 0, 1) := by decide +kernel
theorem ddX5_writeGuard_16 : decode cX5_writeGuard 16 = .ok (.istore_n 2, 1) := by decide +kernel
theorem ddX5_writeGuard_17 : decode cX5_writeGuard 17 = .ok (.iload_n 2, 1) := by decide +kernel
theorem ddX5_writeGuard_18 : decode cX5_writeGuard 18 = .ok (.bipush 28, 2) := by decide +kernel
theorem ddX5_writeGuard_20 : decode cX5_writeGuard 20 = .ok (.if_icmp .ge 50, 3) := by decide +kernel
theorem ddX5_writeGuard_23 : decode cX5_writeGuard 23 = .ok (.aload_n 0, 1) := by decide +kernel
theorem ddX5_writeGuard_24 : decode cX5_writeGuard 24 = .ok (.aload_n 0, 1) := by decide +kernel
theorem ddX5_writeGuard_25 : decode cX5_writeGuard 25 = .ok (.iload_n 1, 1) := by decide +kernel
theorem ddX5_writeGuard_26 : decode cX5_writeGuard 26 = .ok (.iload_n 2, 1) := by decide +kernel
theorem ddX5_writeGuard_27 : decode cX5_writeGuard 27 = .ok (.invokevirtual 95, 3) := by decide +kernel
theorem ddX5_writeGuard_30 : decode cX5_writeGuard 30 = .ok (.ifCond .lt 15, 3) := by decide +kernel
theorem ddX5_writeGuard_33 : decode cX5_writeGuard 33 = .ok (.bipush 48, 2) := by decide +kernel
theorem ddX5_writeGuard_35 : decode cX5_writeGuard 35 = .ok (.aload_n 0, 1) := by decide +kernel
theorem ddX5_writeGuard_36 : decode cX5_writeGuard 36 = .ok (.iload_n 1, 1) := by decide +kernel
theorem ddX5_writeGuard_37 : decode cX5_writeGuard 37 = .ok (.iload_n 2, 1) := by decide +kernel
theorem ddX5_writeGuard_38 : decode cX5_writeGuard 38 = .ok (.invokevirtual 95, 3) := by decide +kernel
theorem ddX5_writeGuard_41 : decode cX5_writeGuard 41 = .ok (.iadd, 1) := by decide +kernel
theorem ddX5_writeGuard_42 : decode cX5_writeGuard 42 = .ok (.goto 19, 3) := by decide +kernel
theorem ddX5_writeGuard_45 : decode cX5_writeGuard 45 = .ok (.aload_n 0, 1) := by decide +kernel
theorem ddX5_writeGuard_46 : decode cX5_writeGuard 46 = .ok (.iload_n 1, 1) := by decide +kernel
theorem ddX5_writeGuard_47 : decode cX5_writeGuard 47 = .ok (.iload_n 2, 1) := by decide +kernel
theorem ddX5_writeGuard_48 : decode cX5_writeGuard 48 = .ok (.invokevirtual 91, 3) := by decide +kernel
theorem ddX5_writeGuard_51 : decode cX5_writeGuard 51 = .ok (.ifCond .eq 8, 3) := by decide +kernel
theorem ddX5_writeGuard_54 : decode cX5_writeGuard 54 = .ok (.bipush 120, 2) := by decide +kernel
theorem ddX5_writeGuard_56 : decode cX5_writeGuard 56 = .ok (.goto 5, 3) := by decide +kernel
theorem ddX5_writeGuard_59 : decode cX5_writeGuard 59 = .ok (.bipush 46, 2) := by decide +kernel
theorem ddX5_writeGuard_61 : decode cX5_writeGuard 61 = .ok (.invokevirtual 156, 3) := by decide +kernel
theorem ddX5_writeGuard_64 : decode cX5_writeGuard 64 = .ok (.iinc 2 1, 3) := by decide +kernel
theorem ddX5_writeGuard_67 : decode cX5_writeGuard 67 = .ok (.goto (-50), 3) := by decide +kernel
theorem ddX5_writeGuard_70 : decode cX5_writeGuard 70 = .ok (.aload_n 0, 1) := by decide +kernel
theorem ddX5_writeGuard_71 : decode cX5_writeGuard 71 = .ok (.getfield 153, 3) := by decide +kernel
theorem ddX5_writeGuard_74 : decode cX5_writeGuard 74 = .ok (.ireturn, 1) := by decide +kernel
theorem ddX5_outputCharacter_0 : decode cX5_outputCharacter 0 = .ok (.aload_n 0, 1) := by decide +kernel
theorem ddX5_outputCharacter_1 : decode cX5_outputCharacter 1 = .ok (.iload_n 1, 1) := by decide +kernel
theorem ddX5_outputCharacter_2 : decode cX5_outputCharacter 2 = .ok (.iconst 0, 1) := by decide +kernel
theorem ddX5_outputCharacter_3 : decode cX5_outputCharacter 3 = .ok (.aload_n 0, 1) := by decide +kernel
theorem ddX5_outputCharacter_4 : decode cX5_outputCharacter 4 = .ok (.getfield 153, 3) := by decide +kernel
theorem ddX5_outputCharacter_7 : decode cX5_outputCharacter 7 = .ok (.iconst 1, 1) := by decide +kernel
theorem ddX5_outputCharacter_8 : decode cX5_outputCharacter 8 = .ok (.isub, 1) := by decide +kernel
theorem ddX5_outputCharacter_9 : decode cX5_outputCharacter 9 = .ok (.invokestatic 56, 3) := by decide +kernel
theorem ddX5_outputCharacter_12 : decode cX5_outputCharacter 12 = .ok (.ifCond .eq 7, 3) := by decide +kernel
theorem ddX5_outputCharacter_15 : decode cX5_outputCharacter 15 = .ok (.iconst 0, 1) := by decide +kernel
theorem ddX5_outputCharacter_16 : decode cX5_outputCharacter 16 = .ok (.goto 4, 3) := by decide +kernel
theorem ddX5_outputCharacter_19 : decode cX5_outputCharacter 19 = .ok (.iconst 1, 1) := by decide +kernel
theorem ddX5_outputCharacter_20 : decode cX5_outputCharacter 20 = .ok (.invokevirtual 71, 3) := by decide +kernel
theorem ddX5_outputCharacter_23 : decode cX5_outputCharacter 23 = .ok (.ifCond .eq 8, 3) := by decide +kernel
theorem ddX5_outputCharacter_26 : decode cX5_outputCharacter 26 = .ok (.bipush 32, 2) := by decide +kernel
theorem ddX5_outputCharacter_28 : decode cX5_outputCharacter 28 = .ok (.goto 9, 3) := by decide +kernel
theorem ddX5_outputCharacter_31 : decode cX5_outputCharacter 31 = .ok (.aload_n 0, 1) := by decide +kernel
theorem ddX5_outputCharacter_32 : decode cX5_outputCharacter 32 = .ok (.getfield 32, 3) := by decide +kernel
theorem ddX5_outputCharacter_35 : decode cX5_outputCharacter 35 = .ok (.iload_n 1, 1) := by decide +kernel
theorem ddX5_outputCharacter_36 : decode cX5_outputCharacter 36 = .ok (.caload, 1) := by decide +kernel
theorem ddX5_outputCharacter_37 : decode cX5_outputCharacter 37 = .ok (.ireturn, 1) := by decide +kernel
theorem ddX5_isConsistent_0 : decode cX5_isConsistent 0 = .ok (.aload_n 0, 1) := by decide +kernel
theorem ddX5_isConsistent_1 : decode cX5_isConsistent 1 = .ok (.iconst 0, 1) := by decide +kernel
theorem ddX5_isConsistent_2 : decode cX5_isConsistent 2 = .ok (.putfield 42, 3) := by decide +kernel
theorem ddX5_isConsistent_5 : decode cX5_isConsistent 5 = .ok (.iconst 0, 1) := by decide +kernel
theorem ddX5_isConsistent_6 : decode cX5_isConsistent 6 = .ok (.istore_n 1, 1) := by decide +kernel
theorem ddX5_isConsistent_7 : decode cX5_isConsistent 7 = .ok (.iload_n 1, 1) := by decide +kernel
theorem ddX5_isConsistent_8 : decode cX5_isConsistent 8 = .ok (.aload_n 0, 1) := by decide +kernel
theorem ddX5_isConsistent_9 : decode cX5_isConsistent 9 = .ok (.getfield 7, 3) := by decide +kernel
theorem ddX5_isConsistent_12 : decode cX5_isConsistent 12 = .ok (.iconst 1, 1) := by decide +kernel
theorem ddX5_isConsistent_13 : decode cX5_isConsistent 13 = .ok (.iaload, 1) := by decide +kernel
theorem ddX5_isConsistent_14 : decode cX5_isConsistent 14 = .ok (.if_icmp .ge 45, 3) := by decide +kernel
theorem ddX5_isConsistent_17 : decode cX5_isConsistent 17 = .ok (.iconst 1, 1) := by decide +kernel
theorem ddX5_isConsistent_18 : decode cX5_isConsistent 18 = .ok (.istore_n 2, 1) := by decide +kernel
theorem ddX5_isConsistent_19 : decode cX5_isConsistent 19 = .ok (.iload_n 2, 1) := by decide +kernel
theorem ddX5_isConsistent_20 : decode cX5_isConsistent 20 = .ok (.bipush 28, 2) := by decide +kernel
theorem ddX5_isConsistent_22 : decode cX5_isConsistent 22 = .ok (.if_icmp .ge 31, 3) := by decide +kernel
theorem ddX5_isConsistent_25 : decode cX5_isConsistent 25 = .ok (.aload_n 0, 1) := by decide +kernel
theorem ddX5_isConsistent_26 : decode cX5_isConsistent 26 = .ok (.iload_n 1, 1) := by decide +kernel
theorem ddX5_isConsistent_27 : decode cX5_isConsistent 27 = .ok (.iload_n 2, 1) := by decide +kernel
theorem ddX5_isConsistent_28 : decode cX5_isConsistent 28 = .ok (.invokevirtual 95, 3) := by decide +kernel
theorem ddX5_isConsistent_31 : decode cX5_isConsistent 31 = .ok (.ifCond .lt 16, 3) := by decide +kernel
theorem ddX5_isConsistent_34 : decode cX5_isConsistent 34 = .ok (.aload_n 0, 1) := by decide +kernel
theorem ddX5_isConsistent_35 : decode cX5_isConsistent 35 = .ok (.iload_n 1, 1) := by decide +kernel
theorem ddX5_isConsistent_36 : decode cX5_isConsistent 36 = .ok (.iload_n 2, 1) := by decide +kernel
theorem ddX5_isConsistent_37 : decode cX5_isConsistent 37 = .ok (.iconst 1, 1) := by decide +kernel
theorem ddX5_isConsistent_38 : decode cX5_isConsistent 38 = .ok (.isub, 1) := by decide +kernel
theorem ddX5_isConsistent_39 : decode cX5_isConsistent 39 = .ok (.invokevirtual 95, 3) := by decide +kernel
theorem ddX5_isConsistent_42 : decode cX5_isConsistent 42 = .ok (.ifCond .lt 5, 3) := by decide +kernel
theorem ddX5_isConsistent_45 : decode cX5_isConsistent 45 = .ok (.iconst 0, 1) := by decide +kernel
theorem ddX5_isConsistent_46 : decode cX5_isConsistent 46 = .ok (.ireturn, 1) := by decide +kernel
theorem ddX5_isConsistent_47 : decode cX5_isConsistent 47 = .ok (.iinc 2 1, 3) := by decide +kernel
theorem ddX5_isConsistent_50 : decode cX5_isConsistent 50 = .ok (.goto (-31), 3) := by decide +kernel
theorem ddX5_isConsistent_53 : decode cX5_isConsistent 53 = .ok (.iinc 1 1, 3) := by decide +kernel
theorem ddX5_isConsistent_56 : decode cX5_isConsistent 56 = .ok (.goto (-49), 3) := by decide +kernel
theorem ddX5_isConsistent_59 : decode cX5_isConsistent 59 = .ok (.iconst 1, 1) := by decide +kernel
theorem ddX5_isConsistent_60 : decode cX5_isConsistent 60 = .ok (.ireturn, 1) := by decide +kernel
theorem ddX5_feed_0 : decode cX5_feed 0 = .ok (.aload_n 0, 1) := by decide +kernel
theorem ddX5_feed_1 : decode cX5_feed 1 = .ok (.aload_n 0, 1) := by decide +kernel
theorem ddX5_feed_2 : decode cX5_feed 2 = .ok (.getfield 160, 3) := by decide +kernel
theorem ddX5_feed_5 : decode cX5_feed 5 = .ok (.bipush 60, 2) := by decide +kernel
theorem ddX5_feed_7 : decode cX5_feed 7 = .ok (.if_icmp .ne 7, 3) := by decide +kernel
theorem ddX5_feed_10 : decode cX5_feed 10 = .ok (.iconst 1, 1) := by decide +kernel
theorem ddX5_feed_11 : decode cX5_feed 11 = .ok (.goto 4, 3) := by decide +kernel
theorem ddX5_feed_14 : decode cX5_feed 14 = .ok (.iconst 0, 1) := by decide +kernel
theorem ddX5_feed_15 : decode cX5_feed 15 = .ok (.invokevirtual 71, 3) := by decide +kernel
theorem ddX5_feed_18 : decode cX5_feed 18 = .ok (.ifCond .eq 5, 3) := by decide +kernel
theorem ddX5_feed_21 : decode cX5_feed 21 = .ok (.iconst 0, 1) := by decide +kernel
theorem ddX5_feed_22 : decode cX5_feed 22 = .ok (.ireturn, 1) := by decide +kernel
theorem ddX5_feed_23 : decode cX5_feed 23 = .ok (.aload_n 0, 1) := by decide +kernel
theorem ddX5_feed_24 : decode cX5_feed 24 = .ok (.getfield 22, 3) := by decide +kernel
theorem ddX5_feed_27 : decode cX5_feed 27 = .ok (.aload_n 0, 1) := by decide +kernel
theorem ddX5_feed_28 : decode cX5_feed 28 = .ok (.getfield 160, 3) := by decide +kernel
theorem ddX5_feed_31 : decode cX5_feed 31 = .ok (.iload_n 1, 1) := by decide +kernel
theorem ddX5_feed_32 : decode cX5_feed 32 = .ok (.iastore, 1) := by decide +kernel
theorem ddX5_feed_33 : decode cX5_feed 33 = .ok (.aload_n 0, 1) := by decide +kernel
theorem ddX5_feed_34 : decode cX5_feed 34 = .ok (.dup, 1) := by decide +kernel
theorem ddX5_feed_35 : decode cX5_feed 35 = .ok (.getfield 160, 3) := by decide +kernel
theorem ddX5_feed_38 : decode cX5_feed 38 = .ok (.iconst 1, 1) := by decide +kernel
theorem ddX5_feed_39 : decode cX5_feed 39 = .ok (.iadd, 1) := by decide +kernel
theorem ddX5_feed_40 : decode cX5_feed 40 = .ok (.putfield 160, 3) := by decide +kernel
theorem ddX5_feed_43 : decode cX5_feed 43 = .ok (.aload_n 0, 1) := by decide +kernel
theorem ddX5_feed_44 : decode cX5_feed 44 = .ok (.getfield 160, 3) := by decide +kernel
theorem ddX5_feed_47 : decode cX5_feed 47 = .ok (.ireturn, 1) := by decide +kernel
theorem ddX5_here_0 : decode cX5_here 0 = .ok (.aload_n 0, 1) := by decide +kernel
theorem ddX5_here_1 : decode cX5_here 1 = .ok (.getfield 163, 3) := by decide +kernel
theorem ddX5_here_4 : decode cX5_here 4 = .ok (.aload_n 0, 1) := by decide +kernel
theorem ddX5_here_5 : decode cX5_here 5 = .ok (.getfield 160, 3) := by decide +kernel
theorem ddX5_here_8 : decode cX5_here 8 = .ok (.if_icmp .ge 15, 3) := by decide +kernel
theorem ddX5_here_11 : decode cX5_here 11 = .ok (.aload_n 0, 1) := by decide +kernel
theorem ddX5_here_12 : decode cX5_here 12 = .ok (.getfield 22, 3) := by decide +kernel
theorem ddX5_here_15 : decode cX5_here 15 = .ok (.aload_n 0, 1) := by decide +kernel
theorem ddX5_here_16 : decode cX5_here 16 = .ok (.getfield 163, 3) := by decide +kernel
theorem ddX5_here_19 : decode cX5_here 19 = .ok (.iaload, 1) := by decide +kernel
theorem ddX5_here_20 : decode cX5_here 20 = .ok (.goto 4, 3) := by decide +kernel
theorem ddX5_here_23 : decode cX5_here 23 = .ok (.iconst (-1), 1) := by decide +kernel
theorem ddX5_here_24 : decode cX5_here 24 = .ok (.ireturn, 1) := by decide +kernel
theorem ddX5_skips_0 : decode cX5_skips 0 = .ok (.aload_n 0, 1) := by decide +kernel
theorem ddX5_skips_1 : decode cX5_skips 1 = .ok (.invokevirtual 166, 3) := by decide +kernel
theorem ddX5_skips_4 : decode cX5_skips 4 = .ok (.iload_n 1, 1) := by decide +kernel
theorem ddX5_skips_5 : decode cX5_skips 5 = .ok (.if_icmp .eq 5, 3) := by decide +kernel
theorem ddX5_skips_8 : decode cX5_skips 8 = .ok (.iconst 0, 1) := by decide +kernel
theorem ddX5_skips_9 : decode cX5_skips 9 = .ok (.ireturn, 1) := by decide +kernel
theorem ddX5_skips_10 : decode cX5_skips 10 = .ok (.aload_n 0, 1) := by decide +kernel
theorem ddX5_skips_11 : decode cX5_skips 11 = .ok (.dup, 1) := by decide +kernel
theorem ddX5_skips_12 : decode cX5_skips 12 = .ok (.getfield 163, 3) := by decide +kernel
theorem ddX5_skips_15 : decode cX5_skips 15 = .ok (.iconst 1, 1) := by decide +kernel
theorem ddX5_skips_16 : decode cX5_skips 16 = .ok (.iadd, 1) := by decide +kernel
theorem ddX5_skips_17 : decode cX5_skips 17 = .ok (.putfield 163, 3) := by decide +kernel
theorem ddX5_skips_20 : decode cX5_skips 20 = .ok (.iconst 1, 1) := by decide +kernel
theorem ddX5_skips_21 : decode cX5_skips 21 = .ok (.ireturn, 1) := by decide +kernel
theorem ddX5_isWord_0 : decode cX5_isWord 0 = .ok (.aload_n 0, 1) := by decide +kernel
theorem ddX5_isWord_1 : decode cX5_isWord 1 = .ok (.getfield 39, 3) := by decide +kernel
theorem ddX5_isWord_4 : decode cX5_isWord 4 = .ok (.iconst 4, 1) := by decide +kernel
theorem ddX5_isWord_5 : decode cX5_isWord 5 = .ok (.aload_n 0, 1) := by decide +kernel
theorem ddX5_isWord_6 : decode cX5_isWord 6 = .ok (.getfield 169, 3) := by decide +kernel
theorem ddX5_isWord_9 : decode cX5_isWord 9 = .ok (.imul, 1) := by decide +kernel
theorem ddX5_isWord_10 : decode cX5_isWord 10 = .ok (.iload_n 1, 1) := by decide +kernel
theorem ddX5_isWord_11 : decode cX5_isWord 11 = .ok (.iastore, 1) := by decide +kernel
theorem ddX5_isWord_12 : decode cX5_isWord 12 = .ok (.iconst 0, 1) := by decide +kernel
theorem ddX5_isWord_13 : decode cX5_isWord 13 = .ok (.istore_n 3, 1) := by decide +kernel
theorem ddX5_isWord_14 : decode cX5_isWord 14 = .ok (.iload_n 3, 1) := by decide +kernel
theorem ddX5_isWord_15 : decode cX5_isWord 15 = .ok (.aload_n 2, 1) := by decide +kernel
theorem ddX5_isWord_16 : decode cX5_isWord 16 = .ok (.invokevirtual 172, 3) := by decide +kernel
theorem ddX5_isWord_19 : decode cX5_isWord 19 = .ok (.if_icmp .ge 23, 3) := by decide +kernel
theorem ddX5_isWord_22 : decode cX5_isWord 22 = .ok (.aload_n 0, 1) := by decide +kernel
theorem ddX5_isWord_23 : decode cX5_isWord 23 = .ok (.aload_n 2, 1) := by decide +kernel
theorem ddX5_isWord_24 : decode cX5_isWord 24 = .ok (.iload_n 3, 1) := by decide +kernel
theorem ddX5_isWord_25 : decode cX5_isWord 25 = .ok (.invokevirtual 176, 3) := by decide +kernel
theorem ddX5_isWord_28 : decode cX5_isWord 28 = .ok (.invokevirtual 180, 3) := by decide +kernel
theorem ddX5_isWord_31 : decode cX5_isWord 31 = .ok (.ifCond .ne 5, 3) := by decide +kernel
theorem ddX5_isWord_34 : decode cX5_isWord 34 = .ok (.iconst 0, 1) := by decide +kernel
theorem ddX5_isWord_35 : decode cX5_isWord 35 = .ok (.ireturn, 1) := by decide +kernel
theorem ddX5_isWord_36 : decode cX5_isWord 36 = .ok (.iinc 3 1, 3) := by decide +kernel
theorem ddX5_isWord_39 : decode cX5_isWord 39 = .ok (.goto (-25), 3) := by decide +kernel
theorem ddX5_isWord_42 : decode cX5_isWord 42 = .ok (.iconst 1, 1) := by decide +kernel
theorem ddX5_isWord_43 : decode cX5_isWord 43 = .ok (.ireturn, 1) := by decide +kernel
theorem ddX5_figures_0 : decode cX5_figures 0 = .ok (.aload_n 0, 1) := by decide +kernel
theorem ddX5_figures_1 : decode cX5_figures 1 = .ok (.iload_n 1, 1) := by decide +kernel
theorem ddX5_figures_2 : decode cX5_figures 2 = .ok (.invokevirtual 180, 3) := by decide +kernel
theorem ddX5_figures_5 : decode cX5_figures 5 = .ok (.ifCond .eq 17, 3) := by decide +kernel
theorem ddX5_figures_8 : decode cX5_figures 8 = .ok (.aload_n 0, 1) := by decide +kernel
theorem ddX5_figures_9 : decode cX5_figures 9 = .ok (.invokevirtual 166, 3) := by decide +kernel
theorem ddX5_figures_12 : decode cX5_figures 12 = .ok (.bipush 48, 2) := by decide +kernel
theorem ddX5_figures_14 : decode cX5_figures 14 = .ok (.bipush 57, 2) := by decide +kernel
theorem ddX5_figures_16 : decode cX5_figures 16 = .ok (.invokestatic 56, 3) := by decide +kernel
theorem ddX5_figures_19 : decode cX5_figures 19 = .ok (.ifCond .ne 5, 3) := by decide +kernel
theorem ddX5_figures_22 : decode cX5_figures 22 = .ok (.iconst 0, 1) := by decide +kernel
theorem ddX5_figures_23 : decode cX5_figures 23 = .ok (.ireturn, 1) := by decide +kernel
theorem ddX5_figures_24 : decode cX5_figures 24 = .ok (.aload_n 0, 1) := by decide +kernel
theorem ddX5_figures_25 : decode cX5_figures 25 = .ok (.getfield 39, 3) := by decide +kernel
theorem ddX5_figures_28 : decode cX5_figures 28 = .ok (.iload_n 2, 1) := by decide +kernel
theorem ddX5_figures_29 : decode cX5_figures 29 = .ok (.iconst 0, 1) := by decide +kernel
theorem ddX5_figures_30 : decode cX5_figures 30 = .ok (.iastore, 1) := by decide +kernel
theorem ddX5_figures_31 : decode cX5_figures 31 = .ok (.iconst 0, 1) := by decide +kernel
theorem ddX5_figures_32 : decode cX5_figures 32 = .ok (.istore 4, 2) := by decide +kernel
theorem ddX5_figures_34 : decode cX5_figures 34 = .ok (.iload 4, 2) := by decide +kernel
theorem ddX5_figures_36 : decode cX5_figures 36 = .ok (.iload_n 3, 1) := by decide +kernel
theorem ddX5_figures_37 : decode cX5_figures 37 = .ok (.if_icmp .ge 56, 3) := by decide +kernel
theorem ddX5_figures_40 : decode cX5_figures 40 = .ok (.aload_n 0, 1) := by decide +kernel
theorem ddX5_figures_41 : decode cX5_figures 41 = .ok (.invokevirtual 166, 3) := by decide +kernel
theorem ddX5_figures_44 : decode cX5_figures 44 = .ok (.bipush 48, 2) := by decide +kernel
theorem ddX5_figures_46 : decode cX5_figures 46 = .ok (.bipush 57, 2) := by decide +kernel
theorem ddX5_figures_48 : decode cX5_figures 48 = .ok (.invokestatic 56, 3) := by decide +kernel
theorem ddX5_figures_51 : decode cX5_figures 51 = .ok (.ifCond .eq 42, 3) := by decide +kernel
theorem ddX5_figures_54 : decode cX5_figures 54 = .ok (.aload_n 0, 1) := by decide +kernel
theorem ddX5_figures_55 : decode cX5_figures 55 = .ok (.getfield 39, 3) := by decide +kernel
theorem ddX5_figures_58 : decode cX5_figures 58 = .ok (.iload_n 2, 1) := by decide +kernel
theorem ddX5_figures_59 : decode cX5_figures 59 = .ok (.bipush 10, 2) := by decide +kernel
theorem ddX5_figures_61 : decode cX5_figures 61 = .ok (.aload_n 0, 1) := by decide +kernel
theorem ddX5_figures_62 : decode cX5_figures 62 = .ok (.getfield 39, 3) := by decide +kernel
theorem ddX5_figures_65 : decode cX5_figures 65 = .ok (.iload_n 2, 1) := by decide +kernel
theorem ddX5_figures_66 : decode cX5_figures 66 = .ok (.iaload, 1) := by decide +kernel
theorem ddX5_figures_67 : decode cX5_figures 67 = .ok (.imul, 1) := by decide +kernel
theorem ddX5_figures_68 : decode cX5_figures 68 = .ok (.aload_n 0, 1) := by decide +kernel
theorem ddX5_figures_69 : decode cX5_figures 69 = .ok (.invokevirtual 166, 3) := by decide +kernel
theorem ddX5_figures_72 : decode cX5_figures 72 = .ok (.iadd, 1) := by decide +kernel
theorem ddX5_figures_73 : decode cX5_figures 73 = .ok (.bipush 48, 2) := by decide +kernel
theorem ddX5_figures_75 : decode cX5_figures 75 = .ok (.isub, 1) := by decide +kernel
theorem ddX5_figures_76 : decode cX5_figures 76 = .ok (.iastore, 1) := by decide +kernel
theorem ddX5_figures_77 : decode cX5_figures 77 = .ok (.aload_n 0, 1) := by decide +kernel
theorem ddX5_figures_78 : decode cX5_figures 78 = .ok (.dup, 1) := by decide +kernel
theorem ddX5_figures_79 : decode cX5_figures 79 = .ok (.getfield 163, 3) := by decide +kernel
theorem ddX5_figures_82 : decode cX5_figures 82 = .ok (.iconst 1, 1) := by decide +kernel
theorem ddX5_figures_83 : decode cX5_figures 83 = .ok (.iadd, 1) := by decide +kernel
theorem ddX5_figures_84 : decode cX5_figures 84 = .ok (.putfield 163, 3) := by decide +kernel
theorem ddX5_figures_87 : decode cX5_figures 87 = .ok (.iinc 4 1, 3) := by decide +kernel
theorem ddX5_figures_90 : decode cX5_figures 90 = .ok (.goto (-56), 3) := by decide +kernel
theorem ddX5_figures_93 : decode cX5_figures 93 = .ok (.iconst 1, 1) := by decide +kernel
theorem ddX5_figures_94 : decode cX5_figures 94 = .ok (.ireturn, 1) := by decide +kernel
theorem ddX5_withG_0 : decode cX5_withG 0 = .ok (.aload_n 0, 1) := by decide +kernel
theorem ddX5_withG_1 : decode cX5_withG 1 = .ok (.bipush 97, 2) := by decide +kernel
theorem ddX5_withG_3 : decode cX5_withG 3 = .ok (.invokevirtual 180, 3) := by decide +kernel
theorem ddX5_withG_6 : decode cX5_withG 6 = .ok (.ifCond .eq 30, 3) := by decide +kernel
theorem ddX5_withG_9 : decode cX5_withG 9 = .ok (.aload_n 0, 1) := by decide +kernel
theorem ddX5_withG_10 : decode cX5_withG 10 = .ok (.iconst 0, 1) := by decide +kernel
theorem ddX5_withG_11 : decode cX5_withG 11 = .ok (.ldc 183, 2) := by decide +kernel
theorem ddX5_withG_13 : decode cX5_withG 13 = .ok (.invokevirtual 185, 3) := by decide +kernel
theorem ddX5_withG_16 : decode cX5_withG 16 = .ok (.ifCond .eq 18, 3) := by decide +kernel
theorem ddX5_withG_19 : decode cX5_withG 19 = .ok (.aload_n 0, 1) := by decide +kernel
theorem ddX5_withG_20 : decode cX5_withG 20 = .ok (.bipush 32, 2) := by decide +kernel
theorem ddX5_withG_22 : decode cX5_withG 22 = .ok (.iload_n 1, 1) := by decide +kernel
theorem ddX5_withG_23 : decode cX5_withG 23 = .ok (.iconst 1, 1) := by decide +kernel
theorem ddX5_withG_24 : decode cX5_withG 24 = .ok (.invokevirtual 189, 3) := by decide +kernel
theorem ddX5_withG_27 : decode cX5_withG 27 = .ok (.ifCond .eq 7, 3) := by decide +kernel
theorem ddX5_withG_30 : decode cX5_withG 30 = .ok (.iconst 1, 1) := by decide +kernel
theorem ddX5_withG_31 : decode cX5_withG 31 = .ok (.goto 4, 3) := by decide +kernel
theorem ddX5_withG_34 : decode cX5_withG 34 = .ok (.iconst 0, 1) := by decide +kernel
theorem ddX5_withG_35 : decode cX5_withG 35 = .ok (.ireturn, 1) := by decide +kernel
theorem ddX5_withG_36 : decode cX5_withG 36 = .ok (.aload_n 0, 1) := by decide +kernel
theorem ddX5_withG_37 : decode cX5_withG 37 = .ok (.bipush 117, 2) := by decide +kernel
theorem ddX5_withG_39 : decode cX5_withG 39 = .ok (.invokevirtual 180, 3) := by decide +kernel
theorem ddX5_withG_42 : decode cX5_withG 42 = .ok (.ifCond .eq 28, 3) := by decide +kernel
theorem ddX5_withG_45 : decode cX5_withG 45 = .ok (.aload_n 0, 1) := by decide +kernel
theorem ddX5_withG_46 : decode cX5_withG 46 = .ok (.iconst 1, 1) := by decide +kernel
theorem ddX5_withG_47 : decode cX5_withG 47 = .ok (.ldc 192, 2) := by decide +kernel
theorem ddX5_withG_49 : decode cX5_withG 49 = .ok (.invokevirtual 185, 3) := by decide +kernel
theorem ddX5_withG_52 : decode cX5_withG 52 = .ok (.ifCond .eq 18, 3) := by decide +kernel
theorem ddX5_withG_55 : decode cX5_withG 55 = .ok (.aload_n 0, 1) := by decide +kernel
theorem ddX5_withG_56 : decode cX5_withG 56 = .ok (.bipush 32, 2) := by decide +kernel
theorem ddX5_withG_58 : decode cX5_withG 58 = .ok (.iload_n 1, 1) := by decide +kernel
theorem ddX5_withG_59 : decode cX5_withG 59 = .ok (.iconst 1, 1) := by decide +kernel
theorem ddX5_withG_60 : decode cX5_withG 60 = .ok (.invokevirtual 189, 3) := by decide +kernel
theorem ddX5_withG_63 : decode cX5_withG 63 = .ok (.ifCond .eq 7, 3) := by decide +kernel
theorem ddX5_withG_66 : decode cX5_withG 66 = .ok (.iconst 1, 1) := by decide +kernel
theorem ddX5_withG_67 : decode cX5_withG 67 = .ok (.goto 4, 3) := by decide +kernel
theorem ddX5_withG_70 : decode cX5_withG 70 = .ok (.iconst 0, 1) := by decide +kernel
theorem ddX5_withG_71 : decode cX5_withG 71 = .ok (.ireturn, 1) := by decide +kernel
theorem ddX5_withF_0 : decode cX5_withF 0 = .ok (.aload_n 0, 1) := by decide +kernel
theorem ddX5_withF_1 : decode cX5_withF 1 = .ok (.bipush 114, 2) := by decide +kernel
theorem ddX5_withF_3 : decode cX5_withF 3 = .ok (.invokevirtual 180, 3) := by decide +kernel
theorem ddX5_withF_6 : decode cX5_withF 6 = .ok (.ifCond .eq 43, 3) := by decide +kernel
theorem ddX5_withF_9 : decode cX5_withF 9 = .ok (.aload_n 0, 1) := by decide +kernel
theorem ddX5_withF_10 : decode cX5_withF 10 = .ok (.iconst 3, 1) := by decide +kernel
theorem ddX5_withF_11 : decode cX5_withF 11 = .ok (.ldc 194, 2) := by decide +kernel
theorem ddX5_withF_13 : decode cX5_withF 13 = .ok (.invokevirtual 185, 3) := by decide +kernel
theorem ddX5_withF_16 : decode cX5_withF 16 = .ok (.ifCond .eq 31, 3) := by decide +kernel
theorem ddX5_withF_19 : decode cX5_withF 19 = .ok (.aload_n 0, 1) := by decide +kernel
theorem ddX5_withF_20 : decode cX5_withF 20 = .ok (.bipush 32, 2) := by decide +kernel
theorem ddX5_withF_22 : decode cX5_withF 22 = .ok (.iload_n 1, 1) := by decide +kernel
theorem ddX5_withF_23 : decode cX5_withF 23 = .ok (.iconst 1, 1) := by decide +kernel
theorem ddX5_withF_24 : decode cX5_withF 24 = .ok (.invokevirtual 189, 3) := by decide +kernel
theorem ddX5_withF_27 : decode cX5_withF 27 = .ok (.ifCond .eq 20, 3) := by decide +kernel
theorem ddX5_withF_30 : decode cX5_withF 30 = .ok (.aload_n 0, 1) := by decide +kernel
theorem ddX5_withF_31 : decode cX5_withF 31 = .ok (.bipush 64, 2) := by decide +kernel
theorem ddX5_withF_33 : decode cX5_withF 33 = .ok (.iload_n 1, 1) := by decide +kernel
theorem ddX5_withF_34 : decode cX5_withF 34 = .ok (.iconst 1, 1) := by decide +kernel
theorem ddX5_withF_35 : decode cX5_withF 35 = .ok (.iadd, 1) := by decide +kernel
theorem ddX5_withF_36 : decode cX5_withF 36 = .ok (.iconst 2, 1) := by decide +kernel
theorem ddX5_withF_37 : decode cX5_withF 37 = .ok (.invokevirtual 189, 3) := by decide +kernel
theorem ddX5_withF_40 : decode cX5_withF 40 = .ok (.ifCond .eq 7, 3) := by decide +kernel
theorem ddX5_withF_43 : decode cX5_withF 43 = .ok (.iconst 1, 1) := by decide +kernel
theorem ddX5_withF_44 : decode cX5_withF 44 = .ok (.goto 4, 3) := by decide +kernel
theorem ddX5_withF_47 : decode cX5_withF 47 = .ok (.iconst 0, 1) := by decide +kernel
theorem ddX5_withF_48 : decode cX5_withF 48 = .ok (.ireturn, 1) := by decide +kernel
theorem ddX5_withF_49 : decode cX5_withF 49 = .ok (.aload_n 0, 1) := by decide +kernel
theorem ddX5_withF_50 : decode cX5_withF 50 = .ok (.bipush 105, 2) := by decide +kernel
theorem ddX5_withF_52 : decode cX5_withF 52 = .ok (.invokevirtual 180, 3) := by decide +kernel
theorem ddX5_withF_55 : decode cX5_withF 55 = .ok (.ifCond .eq 30, 3) := by decide +kernel
theorem ddX5_withF_58 : decode cX5_withF 58 = .ok (.aload_n 0, 1) := by decide +kernel
theorem ddX5_withF_59 : decode cX5_withF 59 = .ok (.iconst 5, 1) := by decide +kernel
theorem ddX5_withF_60 : decode cX5_withF 60 = .ok (.ldc 196, 2) := by decide +kernel
theorem ddX5_withF_62 : decode cX5_withF 62 = .ok (.invokevirtual 185, 3) := by decide +kernel
theorem ddX5_withF_65 : decode cX5_withF 65 = .ok (.ifCond .eq 18, 3) := by decide +kernel
theorem ddX5_withF_68 : decode cX5_withF 68 = .ok (.aload_n 0, 1) := by decide +kernel
theorem ddX5_withF_69 : decode cX5_withF 69 = .ok (.bipush 32, 2) := by decide +kernel
theorem ddX5_withF_71 : decode cX5_withF 71 = .ok (.iload_n 1, 1) := by decide +kernel
theorem ddX5_withF_72 : decode cX5_withF 72 = .ok (.iconst 2, 1) := by decide +kernel
theorem ddX5_withF_73 : decode cX5_withF 73 = .ok (.invokevirtual 189, 3) := by decide +kernel
theorem ddX5_withF_76 : decode cX5_withF 76 = .ok (.ifCond .eq 7, 3) := by decide +kernel
theorem ddX5_withF_79 : decode cX5_withF 79 = .ok (.iconst 1, 1) := by decide +kernel
theorem ddX5_withF_80 : decode cX5_withF 80 = .ok (.goto 4, 3) := by decide +kernel
theorem ddX5_withF_83 : decode cX5_withF 83 = .ok (.iconst 0, 1) := by decide +kernel
theorem ddX5_withF_84 : decode cX5_withF 84 = .ok (.ireturn, 1) := by decide +kernel
theorem ddX5_withF_85 : decode cX5_withF 85 = .ok (.aload_n 0, 1) := by decide +kernel
theorem ddX5_withF_86 : decode cX5_withF 86 = .ok (.bipush 111, 2) := by decide +kernel
theorem ddX5_withF_88 : decode cX5_withF 88 = .ok (.invokevirtual 180, 3) := by decide +kernel
theorem ddX5_withF_91 : decode cX5_withF 91 = .ok (.ifCond .eq 29, 3) := by decide +kernel
theorem ddX5_withF_94 : decode cX5_withF 94 = .ok (.aload_n 0, 1) := by decide +kernel
theorem ddX5_withF_95 : decode cX5_withF 95 = .ok (.bipush 6, 2) := by decide +kernel
theorem ddX5_withF_97 : decode cX5_withF 97 = .ok (.ldc 198, 2) := by decide +kernel
theorem ddX5_withF_99 : decode cX5_withF 99 = .ok (.invokevirtual 185, 3) := by decide +kernel
theorem ddX5_withF_102 : decode cX5_withF 102 = .ok (.ifCond .eq 18, 3) := by decide +kernel
theorem ddX5_withF_105 : decode cX5_withF 105 = .ok (.aload_n 0, 1) := by decide +kernel
theorem ddX5_withF_106 : decode cX5_withF 106 = .ok (.bipush 32, 2) := by decide +kernel
theorem ddX5_withF_108 : decode cX5_withF 108 = .ok (.iload_n 1, 1) := by decide +kernel
theorem ddX5_withF_109 : decode cX5_withF 109 = .ok (.iconst 2, 1) := by decide +kernel
theorem ddX5_withF_110 : decode cX5_withF 110 = .ok (.invokevirtual 189, 3) := by decide +kernel
theorem ddX5_withF_113 : decode cX5_withF 113 = .ok (.ifCond .eq 7, 3) := by decide +kernel
theorem ddX5_withF_116 : decode cX5_withF 116 = .ok (.iconst 1, 1) := by decide +kernel
theorem ddX5_withF_117 : decode cX5_withF 117 = .ok (.goto 4, 3) := by decide +kernel
theorem ddX5_withF_120 : decode cX5_withF 120 = .ok (.iconst 0, 1) := by decide +kernel
theorem ddX5_withF_121 : decode cX5_withF 121 = .ok (.ireturn, 1) := by decide +kernel
theorem ddX5_commandHere_0 : decode cX5_commandHere 0 = .ok (.iconst 4, 1) := by decide +kernel
theorem ddX5_commandHere_1 : decode cX5_commandHere 1 = .ok (.aload_n 0, 1) := by decide +kernel
theorem ddX5_commandHere_2 : decode cX5_commandHere 2 = .ok (.getfield 169, 3) := by decide +kernel
theorem ddX5_commandHere_5 : decode cX5_commandHere 5 = .ok (.imul, 1) := by decide +kernel
theorem ddX5_commandHere_6 : decode cX5_commandHere 6 = .ok (.iconst 1, 1) := by decide +kernel
theorem ddX5_commandHere_7 : decode cX5_commandHere 7 = .ok (.iadd, 1) := by decide +kernel
theorem ddX5_commandHere_8 : decode cX5_commandHere 8 = .ok (.istore_n 1, 1) := by decide +kernel
theorem ddX5_commandHere_9 : decode cX5_commandHere 9 = .ok (.aload_n 0, 1) := by decide +kernel
theorem ddX5_commandHere_10 : decode cX5_commandHere 10 = .ok (.bipush 103, 2) := by decide +kernel
theorem ddX5_commandHere_12 : decode cX5_commandHere 12 = .ok (.invokevirtual 180, 3) := by decide +kernel
theorem ddX5_commandHere_15 : decode cX5_commandHere 15 = .ok (.ifCond .eq 9, 3) := by decide +kernel
theorem ddX5_commandHere_18 : decode cX5_commandHere 18 = .ok (.aload_n 0, 1) := by decide +kernel
theorem ddX5_commandHere_19 : decode cX5_commandHere 19 = .ok (.iload_n 1, 1) := by decide +kernel
theorem ddX5_commandHere_20 : decode cX5_commandHere 20 = .ok (.invokevirtual 200, 3) := by decide +kernel
theorem ddX5_commandHere_23 : decode cX5_commandHere 23 = .ok (.ireturn, 1) := by decide +kernel
theorem ddX5_commandHere_24 : decode cX5_commandHere 24 = .ok (.aload_n 0, 1) := by decide +kernel
theorem ddX5_commandHere_25 : decode cX5_commandHere 25 = .ok (.bipush 102, 2) := by decide +kernel
theorem ddX5_commandHere_27 : decode cX5_commandHere 27 = .ok (.invokevirtual 180, 3) := by decide +kernel
theorem ddX5_commandHere_30 : decode cX5_commandHere 30 = .ok (.ifCond .eq 9, 3) := by decide +kernel
theorem ddX5_commandHere_33 : decode cX5_commandHere 33 = .ok (.aload_n 0, 1) := by decide +kernel
theorem ddX5_commandHere_34 : decode cX5_commandHere 34 = .ok (.iload_n 1, 1) := by decide +kernel
theorem ddX5_commandHere_35 : decode cX5_commandHere 35 = .ok (.invokevirtual 203, 3) := by decide +kernel
theorem ddX5_commandHere_38 : decode cX5_commandHere 38 = .ok (.ireturn, 1) := by decide +kernel
theorem ddX5_commandHere_39 : decode cX5_commandHere 39 = .ok (.aload_n 0, 1) := by decide +kernel
theorem ddX5_commandHere_40 : decode cX5_commandHere 40 = .ok (.bipush 100, 2) := by decide +kernel
theorem ddX5_commandHere_42 : decode cX5_commandHere 42 = .ok (.invokevirtual 180, 3) := by decide +kernel
theorem ddX5_commandHere_45 : decode cX5_commandHere 45 = .ok (.ifCond .eq 56, 3) := by decide +kernel
theorem ddX5_commandHere_48 : decode cX5_commandHere 48 = .ok (.aload_n 0, 1) := by decide +kernel
theorem ddX5_commandHere_49 : decode cX5_commandHere 49 = .ok (.iconst 2, 1) := by decide +kernel
theorem ddX5_commandHere_50 : decode cX5_commandHere 50 = .ok (.ldc 206, 2) := by decide +kernel
theorem ddX5_commandHere_52 : decode cX5_commandHere 52 = .ok (.invokevirtual 185, 3) := by decide +kernel
theorem ddX5_commandHere_55 : decode cX5_commandHere 55 = .ok (.ifCond .eq 44, 3) := by decide +kernel
theorem ddX5_commandHere_58 : decode cX5_commandHere 58 = .ok (.aload_n 0, 1) := by decide +kernel
theorem ddX5_commandHere_59 : decode cX5_commandHere 59 = .ok (.bipush 32, 2) := by decide +kernel
theorem ddX5_commandHere_61 : decode cX5_commandHere 61 = .ok (.iload_n 1, 1) := by decide +kernel
theorem ddX5_commandHere_62 : decode cX5_commandHere 62 = .ok (.iconst 1, 1) := by decide +kernel
theorem ddX5_commandHere_63 : decode cX5_commandHere 63 = .ok (.invokevirtual 189, 3) := by decide +kernel
theorem ddX5_commandHere_66 : decode cX5_commandHere 66 = .ok (.ifCond .eq 33, 3) := by decide +kernel
theorem ddX5_commandHere_69 : decode cX5_commandHere 69 = .ok (.aload_n 0, 1) := by decide +kernel
theorem ddX5_commandHere_70 : decode cX5_commandHere 70 = .ok (.bipush 64, 2) := by decide +kernel
theorem ddX5_commandHere_72 : decode cX5_commandHere 72 = .ok (.iload_n 1, 1) := by decide +kernel
theorem ddX5_commandHere_73 : decode cX5_commandHere 73 = .ok (.iconst 1, 1) := by decide +kernel
theorem ddX5_commandHere_74 : decode cX5_commandHere 74 = .ok (.iadd, 1) := by decide +kernel
theorem ddX5_commandHere_75 : decode cX5_commandHere 75 = .ok (.iconst 2, 1) := by decide +kernel
theorem ddX5_commandHere_76 : decode cX5_commandHere 76 = .ok (.invokevirtual 189, 3) := by decide +kernel
theorem ddX5_commandHere_79 : decode cX5_commandHere 79 = .ok (.ifCond .eq 20, 3) := by decide +kernel
theorem ddX5_commandHere_82 : decode cX5_commandHere 82 = .ok (.aload_n 0, 1) := by decide +kernel
theorem ddX5_commandHere_83 : decode cX5_commandHere 83 = .ok (.bipush 61, 2) := by decide +kernel
theorem ddX5_commandHere_85 : decode cX5_commandHere 85 = .ok (.iload_n 1, 1) := by decide +kernel
theorem ddX5_commandHere_86 : decode cX5_commandHere 86 = .ok (.iconst 2, 1) := by decide +kernel
theorem ddX5_commandHere_87 : decode cX5_commandHere 87 = .ok (.iadd, 1) := by decide +kernel
theorem ddX5_commandHere_88 : decode cX5_commandHere 88 = .ok (.iconst 1, 1) := by decide +kernel
theorem ddX5_commandHere_89 : decode cX5_commandHere 89 = .ok (.invokevirtual 189, 3) := by decide +kernel
theorem ddX5_commandHere_92 : decode cX5_commandHere 92 = .ok (.ifCond .eq 7, 3) := by decide +kernel
theorem ddX5_commandHere_95 : decode cX5_commandHere 95 = .ok (.iconst 1, 1) := by decide +kernel
theorem ddX5_commandHere_96 : decode cX5_commandHere 96 = .ok (.goto 4, 3) := by decide +kernel
theorem ddX5_commandHere_99 : decode cX5_commandHere 99 = .ok (.iconst 0, 1) := by decide +kernel
theorem ddX5_commandHere_100 : decode cX5_commandHere 100 = .ok (.ireturn, 1) := by decide +kernel
theorem ddX5_commandHere_101 : decode cX5_commandHere 101 = .ok (.aload_n 0, 1) := by decide +kernel
theorem ddX5_commandHere_102 : decode cX5_commandHere 102 = .ok (.bipush 108, 2) := by decide +kernel
theorem ddX5_commandHere_104 : decode cX5_commandHere 104 = .ok (.invokevirtual 180, 3) := by decide +kernel
theorem ddX5_commandHere_107 : decode cX5_commandHere 107 = .ok (.ifCond .eq 56, 3) := by decide +kernel
theorem ddX5_commandHere_110 : decode cX5_commandHere 110 = .ok (.aload_n 0, 1) := by decide +kernel
theorem ddX5_commandHere_111 : decode cX5_commandHere 111 = .ok (.iconst 4, 1) := by decide +kernel
theorem ddX5_commandHere_112 : decode cX5_commandHere 112 = .ok (.ldc 208, 2) := by decide +kernel
theorem ddX5_commandHere_114 : decode cX5_commandHere 114 = .ok (.invokevirtual 185, 3) := by decide +kernel
theorem ddX5_commandHere_117 : decode cX5_commandHere 117 = .ok (.ifCond .eq 44, 3) := by decide +kernel
theorem ddX5_commandHere_120 : decode cX5_commandHere 120 = .ok (.aload_n 0, 1) := by decide +kernel
theorem ddX5_commandHere_121 : decode cX5_commandHere 121 = .ok (.bipush 32, 2) := by decide +kernel
theorem ddX5_commandHere_123 : decode cX5_commandHere 123 = .ok (.iload_n 1, 1) := by decide +kernel
theorem ddX5_commandHere_124 : decode cX5_commandHere 124 = .ok (.iconst 1, 1) := by decide +kernel
theorem ddX5_commandHere_125 : decode cX5_commandHere 125 = .ok (.invokevirtual 189, 3) := by decide +kernel
theorem ddX5_commandHere_128 : decode cX5_commandHere 128 = .ok (.ifCond .eq 33, 3) := by decide +kernel
theorem ddX5_commandHere_131 : decode cX5_commandHere 131 = .ok (.aload_n 0, 1) := by decide +kernel
theorem ddX5_commandHere_132 : decode cX5_commandHere 132 = .ok (.bipush 32, 2) := by decide +kernel
theorem ddX5_commandHere_134 : decode cX5_commandHere 134 = .ok (.iload_n 1, 1) := by decide +kernel
theorem ddX5_commandHere_135 : decode cX5_commandHere 135 = .ok (.iconst 1, 1) := by decide +kernel
theorem ddX5_commandHere_136 : decode cX5_commandHere 136 = .ok (.iadd, 1) := by decide +kernel
theorem ddX5_commandHere_137 : decode cX5_commandHere 137 = .ok (.iconst 2, 1) := by decide +kernel
theorem ddX5_commandHere_138 : decode cX5_commandHere 138 = .ok (.invokevirtual 189, 3) := by decide +kernel
theorem ddX5_commandHere_141 : decode cX5_commandHere 141 = .ok (.ifCond .eq 20, 3) := by decide +kernel
theorem ddX5_commandHere_144 : decode cX5_commandHere 144 = .ok (.aload_n 0, 1) := by decide +kernel
theorem ddX5_commandHere_145 : decode cX5_commandHere 145 = .ok (.bipush 45, 2) := by decide +kernel
theorem ddX5_commandHere_147 : decode cX5_commandHere 147 = .ok (.iload_n 1, 1) := by decide +kernel
theorem ddX5_commandHere_148 : decode cX5_commandHere 148 = .ok (.iconst 2, 1) := by decide +kernel
theorem ddX5_commandHere_149 : decode cX5_commandHere 149 = .ok (.iadd, 1) := by decide +kernel
theorem ddX5_commandHere_150 : decode cX5_commandHere 150 = .ok (.iconst 2, 1) := by decide +kernel
theorem ddX5_commandHere_151 : decode cX5_commandHere 151 = .ok (.invokevirtual 189, 3) := by decide +kernel
theorem ddX5_commandHere_154 : decode cX5_commandHere 154 = .ok (.ifCond .eq 7, 3) := by decide +kernel
theorem ddX5_commandHere_157 : decode cX5_commandHere 157 = .ok (.iconst 1, 1) := by decide +kernel
theorem ddX5_commandHere_158 : decode cX5_commandHere 158 = .ok (.goto 4, 3) := by decide +kernel
theorem ddX5_commandHere_161 : decode cX5_commandHere 161 = .ok (.iconst 0, 1) := by decide +kernel
theorem ddX5_commandHere_162 : decode cX5_commandHere 162 = .ok (.ireturn, 1) := by decide +kernel
theorem ddX5_commandHere_163 : decode cX5_commandHere 163 = .ok (.aload_n 0, 1) := by decide +kernel
theorem ddX5_commandHere_164 : decode cX5_commandHere 164 = .ok (.bipush 112, 2) := by decide +kernel
theorem ddX5_commandHere_166 : decode cX5_commandHere 166 = .ok (.invokevirtual 180, 3) := by decide +kernel
theorem ddX5_commandHere_169 : decode cX5_commandHere 169 = .ok (.ifCond .eq 29, 3) := by decide +kernel
theorem ddX5_commandHere_172 : decode cX5_commandHere 172 = .ok (.aload_n 0, 1) := by decide +kernel
theorem ddX5_commandHere_173 : decode cX5_commandHere 173 = .ok (.bipush 7, 2) := by decide +kernel
theorem ddX5_commandHere_175 : decode cX5_commandHere 175 = .ok (.ldc 210, 2) := by decide +kernel
theorem ddX5_commandHere_177 : decode cX5_commandHere 177 = .ok (.invokevirtual 185, 3) := by decide +kernel
theorem ddX5_commandHere_180 : decode cX5_commandHere 180 = .ok (.ifCond .eq 18, 3) := by decide +kernel
theorem ddX5_commandHere_183 : decode cX5_commandHere 183 = .ok (.aload_n 0, 1) := by decide +kernel
theorem ddX5_commandHere_184 : decode cX5_commandHere 184 = .ok (.bipush 32, 2) := by decide +kernel
theorem ddX5_commandHere_186 : decode cX5_commandHere 186 = .ok (.iload_n 1, 1) := by decide +kernel
theorem ddX5_commandHere_187 : decode cX5_commandHere 187 = .ok (.iconst 2, 1) := by decide +kernel
theorem ddX5_commandHere_188 : decode cX5_commandHere 188 = .ok (.invokevirtual 189, 3) := by decide +kernel
theorem ddX5_commandHere_191 : decode cX5_commandHere 191 = .ok (.ifCond .eq 7, 3) := by decide +kernel
theorem ddX5_commandHere_194 : decode cX5_commandHere 194 = .ok (.iconst 1, 1) := by decide +kernel
theorem ddX5_commandHere_195 : decode cX5_commandHere 195 = .ok (.goto 4, 3) := by decide +kernel
theorem ddX5_commandHere_198 : decode cX5_commandHere 198 = .ok (.iconst 0, 1) := by decide +kernel
theorem ddX5_commandHere_199 : decode cX5_commandHere 199 = .ok (.ireturn, 1) := by decide +kernel
theorem ddX5_isText_0 : decode cX5_isText 0 = .ok (.aload_n 0, 1) := by decide +kernel
theorem ddX5_isText_1 : decode cX5_isText 1 = .ok (.iconst 0, 1) := by decide +kernel
theorem ddX5_isText_2 : decode cX5_isText 2 = .ok (.putfield 163, 3) := by decide +kernel
theorem ddX5_isText_5 : decode cX5_isText 5 = .ok (.aload_n 0, 1) := by decide +kernel
theorem ddX5_isText_6 : decode cX5_isText 6 = .ok (.iconst 0, 1) := by decide +kernel
theorem ddX5_isText_7 : decode cX5_isText 7 = .ok (.putfield 169, 3) := by decide +kernel
theorem ddX5_isText_10 : decode cX5_isText 10 = .ok (.aload_n 0, 1) := by decide +kernel
theorem ddX5_isText_11 : decode cX5_isText 11 = .ok (.invokevirtual 212, 3) := by decide +kernel
theorem ddX5_isText_14 : decode cX5_isText 14 = .ok (.ifCond .ne 5, 3) := by decide +kernel
theorem ddX5_isText_17 : decode cX5_isText 17 = .ok (.iconst 0, 1) := by decide +kernel
theorem ddX5_isText_18 : decode cX5_isText 18 = .ok (.ireturn, 1) := by decide +kernel
theorem ddX5_isText_19 : decode cX5_isText 19 = .ok (.aload_n 0, 1) := by decide +kernel
theorem ddX5_isText_20 : decode cX5_isText 20 = .ok (.dup, 1) := by decide +kernel
theorem ddX5_isText_21 : decode cX5_isText 21 = .ok (.getfield 169, 3) := by decide +kernel
theorem ddX5_isText_24 : decode cX5_isText 24 = .ok (.iconst 1, 1) := by decide +kernel
theorem ddX5_isText_25 : decode cX5_isText 25 = .ok (.iadd, 1) := by decide +kernel
theorem ddX5_isText_26 : decode cX5_isText 26 = .ok (.putfield 169, 3) := by decide +kernel
theorem ddX5_isText_29 : decode cX5_isText 29 = .ok (.aload_n 0, 1) := by decide +kernel
theorem ddX5_isText_30 : decode cX5_isText 30 = .ok (.bipush 59, 2) := by decide +kernel
theorem ddX5_isText_32 : decode cX5_isText 32 = .ok (.invokevirtual 180, 3) := by decide +kernel
theorem ddX5_isText_35 : decode cX5_isText 35 = .ok (.ifCond .ne (-25), 3) := by decide +kernel
theorem ddX5_isText_38 : decode cX5_isText 38 = .ok (.aload_n 0, 1) := by decide +kernel
theorem ddX5_isText_39 : decode cX5_isText 39 = .ok (.getfield 163, 3) := by decide +kernel
theorem ddX5_isText_42 : decode cX5_isText 42 = .ok (.aload_n 0, 1) := by decide +kernel
theorem ddX5_isText_43 : decode cX5_isText 43 = .ok (.getfield 160, 3) := by decide +kernel
theorem ddX5_isText_46 : decode cX5_isText 46 = .ok (.if_icmp .ne 7, 3) := by decide +kernel
theorem ddX5_isText_49 : decode cX5_isText 49 = .ok (.iconst 1, 1) := by decide +kernel
theorem ddX5_isText_50 : decode cX5_isText 50 = .ok (.goto 4, 3) := by decide +kernel
theorem ddX5_isText_53 : decode cX5_isText 53 = .ok (.iconst 0, 1) := by decide +kernel
theorem ddX5_isText_54 : decode cX5_isText 54 = .ok (.ireturn, 1) := by decide +kernel
theorem ddX5_carries_0 : decode cX5_carries 0 = .ok (.aload_n 0, 1) := by decide +kernel
theorem ddX5_carries_1 : decode cX5_carries 1 = .ok (.getfield 39, 3) := by decide +kernel
theorem ddX5_carries_4 : decode cX5_carries 4 = .ok (.iload_n 1, 1) := by decide +kernel
theorem ddX5_carries_5 : decode cX5_carries 5 = .ok (.iconst 1, 1) := by decide +kernel
theorem ddX5_carries_6 : decode cX5_carries 6 = .ok (.iadd, 1) := by decide +kernel
theorem ddX5_carries_7 : decode cX5_carries 7 = .ok (.iaload, 1) := by decide +kernel
theorem ddX5_carries_8 : decode cX5_carries 8 = .ok (.istore_n 2, 1) := by decide +kernel
theorem ddX5_carries_9 : decode cX5_carries 9 = .ok (.aload_n 0, 1) := by decide +kernel
theorem ddX5_carries_10 : decode cX5_carries 10 = .ok (.getfield 39, 3) := by decide +kernel
theorem ddX5_carries_13 : decode cX5_carries 13 = .ok (.iload_n 1, 1) := by decide +kernel
theorem ddX5_carries_14 : decode cX5_carries 14 = .ok (.iconst 2, 1) := by decide +kernel
theorem ddX5_carries_15 : decode cX5_carries 15 = .ok (.iadd, 1) := by decide +kernel
theorem ddX5_carries_16 : decode cX5_carries 16 = .ok (.iaload, 1) := by decide +kernel
theorem ddX5_carries_17 : decode cX5_carries 17 = .ok (.istore_n 3, 1) := by decide +kernel
theorem ddX5_carries_18 : decode cX5_carries 18 = .ok (.aload_n 0, 1) := by decide +kernel
theorem ddX5_carries_19 : decode cX5_carries 19 = .ok (.getfield 39, 3) := by decide +kernel
theorem ddX5_carries_22 : decode cX5_carries 22 = .ok (.iload_n 1, 1) := by decide +kernel
theorem ddX5_carries_23 : decode cX5_carries 23 = .ok (.iconst 3, 1) := by decide +kernel
theorem ddX5_carries_24 : decode cX5_carries 24 = .ok (.iadd, 1) := by decide +kernel
theorem ddX5_carries_25 : decode cX5_carries 25 = .ok (.iaload, 1) := by decide +kernel
theorem ddX5_carries_26 : decode cX5_carries 26 = .ok (.istore 4, 2) := by decide +kernel
theorem ddX5_carries_28 : decode cX5_carries 28 = .ok (.aload_n 0, 1) := by decide +kernel
theorem ddX5_carries_29 : decode cX5_carries 29 = .ok (.getfield 39, 3) := by decide +kernel
theorem ddX5_carries_32 : decode cX5_carries 32 = .ok (.iload_n 1, 1) := by decide +kernel
theorem ddX5_carries_33 : decode cX5_carries 33 = .ok (.iaload, 1) := by decide +kernel
theorem ddX5_carries_34 : decode cX5_carries 34 = .ok (.tableswitch 91 0 6 #[42, 48, 54, 63, 70, 79, 85], 42) := by decide +kernel
theorem ddX5_carries_76 : decode cX5_carries 76 = .ok (.aload_n 0, 1) := by decide +kernel
theorem ddX5_carries_77 : decode cX5_carries 77 = .ok (.iload_n 2, 1) := by decide +kernel
theorem ddX5_carries_78 : decode cX5_carries 78 = .ok (.invokevirtual 216, 3) := by decide +kernel
theorem ddX5_carries_81 : decode cX5_carries 81 = .ok (.ireturn, 1) := by decide +kernel
theorem ddX5_carries_82 : decode cX5_carries 82 = .ok (.aload_n 0, 1) := by decide +kernel
theorem ddX5_carries_83 : decode cX5_carries 83 = .ok (.iload_n 2, 1) := by decide +kernel
theorem ddX5_carries_84 : decode cX5_carries 84 = .ok (.invokevirtual 219, 3) := by decide +kernel
theorem ddX5_carries_87 : decode cX5_carries 87 = .ok (.ireturn, 1) := by decide +kernel
theorem ddX5_carries_88 : decode cX5_carries 88 = .ok (.aload_n 0, 1) := by decide +kernel
theorem ddX5_carries_89 : decode cX5_carries 89 = .ok (.iload_n 2, 1) := by decide +kernel
theorem ddX5_carries_90 : decode cX5_carries 90 = .ok (.iload_n 3, 1) := by decide +kernel
theorem ddX5_carries_91 : decode cX5_carries 91 = .ok (.iload 4, 2) := by decide +kernel
theorem ddX5_carries_93 : decode cX5_carries 93 = .ok (.invokevirtual 222, 3) := by decide +kernel
theorem ddX5_carries_96 : decode cX5_carries 96 = .ok (.ireturn, 1) := by decide +kernel
theorem ddX5_carries_97 : decode cX5_carries 97 = .ok (.aload_n 0, 1) := by decide +kernel
theorem ddX5_carries_98 : decode cX5_carries 98 = .ok (.iload_n 2, 1) := by decide +kernel
theorem ddX5_carries_99 : decode cX5_carries 99 = .ok (.iload_n 3, 1) := by decide +kernel
theorem ddX5_carries_100 : decode cX5_carries 100 = .ok (.invokevirtual 225, 3) := by decide +kernel
theorem ddX5_carries_103 : decode cX5_carries 103 = .ok (.ireturn, 1) := by decide +kernel
theorem ddX5_carries_104 : decode cX5_carries 104 = .ok (.aload_n 0, 1) := by decide +kernel
theorem ddX5_carries_105 : decode cX5_carries 105 = .ok (.iload_n 2, 1) := by decide +kernel
theorem ddX5_carries_106 : decode cX5_carries 106 = .ok (.iload_n 3, 1) := by decide +kernel
theorem ddX5_carries_107 : decode cX5_carries 107 = .ok (.iload 4, 2) := by decide +kernel
theorem ddX5_carries_109 : decode cX5_carries 109 = .ok (.invokevirtual 228, 3) := by decide +kernel
theorem ddX5_carries_112 : decode cX5_carries 112 = .ok (.ireturn, 1) := by decide +kernel
theorem ddX5_carries_113 : decode cX5_carries 113 = .ok (.aload_n 0, 1) := by decide +kernel
theorem ddX5_carries_114 : decode cX5_carries 114 = .ok (.iload_n 2, 1) := by decide +kernel
theorem ddX5_carries_115 : decode cX5_carries 115 = .ok (.invokevirtual 231, 3) := by decide +kernel
theorem ddX5_carries_118 : decode cX5_carries 118 = .ok (.ireturn, 1) := by decide +kernel
theorem ddX5_carries_119 : decode cX5_carries 119 = .ok (.aload_n 0, 1) := by decide +kernel
theorem ddX5_carries_120 : decode cX5_carries 120 = .ok (.iload_n 2, 1) := by decide +kernel
theorem ddX5_carries_121 : decode cX5_carries 121 = .ok (.invokevirtual 234, 3) := by decide +kernel
theorem ddX5_carries_124 : decode cX5_carries 124 = .ok (.ireturn, 1) := by decide +kernel
theorem ddX5_carries_125 : decode cX5_carries 125 = .ok (.aload_n 0, 1) := by decide +kernel
theorem ddX5_carries_126 : decode cX5_carries 126 = .ok (.iload_n 2, 1) := by decide +kernel
theorem ddX5_carries_127 : decode cX5_carries 127 = .ok (.invokevirtual 237, 3) := by decide +kernel
theorem ddX5_carries_130 : decode cX5_carries 130 = .ok (.ireturn, 1) := by decide +kernel
theorem ddX5_execute_0 : decode cX5_execute 0 = .ok (.aload_n 0, 1) := by decide +kernel
theorem ddX5_execute_1 : decode cX5_execute 1 = .ok (.invokevirtual 240, 3) := by decide +kernel
theorem ddX5_execute_4 : decode cX5_execute 4 = .ok (.istore_n 1, 1) := by decide +kernel
theorem ddX5_execute_5 : decode cX5_execute 5 = .ok (.iload_n 1, 1) := by decide +kernel
theorem ddX5_execute_6 : decode cX5_execute 6 = .ok (.ifCond .ne 11, 3) := by decide +kernel
theorem ddX5_execute_9 : decode cX5_execute 9 = .ok (.aload_n 0, 1) := by decide +kernel
theorem ddX5_execute_10 : decode cX5_execute 10 = .ok (.aload_n 0, 1) := by decide +kernel
theorem ddX5_execute_11 : decode cX5_execute 11 = .ok (.getfield 163, 3) := by decide +kernel
theorem ddX5_execute_14 : decode cX5_execute 14 = .ok (.putfield 25, 3) := by decide +kernel
theorem ddX5_execute_17 : decode cX5_execute 17 = .ok (.aload_n 0, 1) := by decide +kernel
theorem ddX5_execute_18 : decode cX5_execute 18 = .ok (.iconst 0, 1) := by decide +kernel
theorem ddX5_execute_19 : decode cX5_execute 19 = .ok (.putfield 160, 3) := by decide +kernel
theorem ddX5_execute_22 : decode cX5_execute 22 = .ok (.aload_n 0, 1) := by decide +kernel
theorem ddX5_execute_23 : decode cX5_execute 23 = .ok (.iload_n 1, 1) := by decide +kernel
theorem ddX5_execute_24 : decode cX5_execute 24 = .ok (.ifCond .eq 7, 3) := by decide +kernel
theorem ddX5_execute_27 : decode cX5_execute 27 = .ok (.iconst 0, 1) := by decide +kernel
theorem ddX5_execute_28 : decode cX5_execute 28 = .ok (.goto 4, 3) := by decide +kernel
theorem ddX5_execute_31 : decode cX5_execute 31 = .ok (.iconst 1, 1) := by decide +kernel
theorem ddX5_execute_32 : decode cX5_execute 32 = .ok (.invokevirtual 71, 3) := by decide +kernel
theorem ddX5_execute_35 : decode cX5_execute 35 = .ok (.ifCond .eq 5, 3) := by decide +kernel
theorem ddX5_execute_38 : decode cX5_execute 38 = .ok (.iconst 0, 1) := by decide +kernel
theorem ddX5_execute_39 : decode cX5_execute 39 = .ok (.ireturn, 1) := by decide +kernel
theorem ddX5_execute_40 : decode cX5_execute 40 = .ok (.aload_n 0, 1) := by decide +kernel
theorem ddX5_execute_41 : decode cX5_execute 41 = .ok (.getfield 7, 3) := by decide +kernel
theorem ddX5_execute_44 : decode cX5_execute 44 = .ok (.iconst 0, 1) := by decide +kernel
theorem ddX5_execute_45 : decode cX5_execute 45 = .ok (.aload_n 0, 1) := by decide +kernel
theorem ddX5_execute_46 : decode cX5_execute 46 = .ok (.getfield 19, 3) := by decide +kernel
theorem ddX5_execute_49 : decode cX5_execute 49 = .ok (.iconst 0, 1) := by decide +kernel
theorem ddX5_execute_50 : decode cX5_execute 50 = .ok (.invokestatic 52, 3) := by decide +kernel
theorem ddX5_execute_53 : decode cX5_execute 53 = .ok (.aload_n 0, 1) := by decide +kernel
theorem ddX5_execute_54 : decode cX5_execute 54 = .ok (.iconst 1, 1) := by decide +kernel
theorem ddX5_execute_55 : decode cX5_execute 55 = .ok (.putfield 45, 3) := by decide +kernel
theorem ddX5_execute_58 : decode cX5_execute 58 = .ok (.iconst 0, 1) := by decide +kernel
theorem ddX5_execute_59 : decode cX5_execute 59 = .ok (.istore_n 2, 1) := by decide +kernel
theorem ddX5_execute_60 : decode cX5_execute 60 = .ok (.iconst 0, 1) := by decide +kernel
theorem ddX5_execute_61 : decode cX5_execute 61 = .ok (.istore_n 3, 1) := by decide +kernel
theorem ddX5_execute_62 : decode cX5_execute 62 = .ok (.iload_n 2, 1) := by decide +kernel
theorem ddX5_execute_63 : decode cX5_execute 63 = .ok (.aload_n 0, 1) := by decide +kernel
theorem ddX5_execute_64 : decode cX5_execute 64 = .ok (.getfield 169, 3) := by decide +kernel
theorem ddX5_execute_67 : decode cX5_execute 67 = .ok (.if_icmp .ge 31, 3) := by decide +kernel
theorem ddX5_execute_70 : decode cX5_execute 70 = .ok (.aload_n 0, 1) := by decide +kernel
theorem ddX5_execute_71 : decode cX5_execute 71 = .ok (.getfield 42, 3) := by decide +kernel
theorem ddX5_execute_74 : decode cX5_execute 74 = .ok (.ifCond .ne 24, 3) := by decide +kernel
theorem ddX5_execute_77 : decode cX5_execute 77 = .ok (.aload_n 0, 1) := by decide +kernel
theorem ddX5_execute_78 : decode cX5_execute 78 = .ok (.iconst 4, 1) := by decide +kernel
theorem ddX5_execute_79 : decode cX5_execute 79 = .ok (.iload_n 2, 1) := by decide +kernel
theorem ddX5_execute_80 : decode cX5_execute 80 = .ok (.imul, 1) := by decide +kernel
theorem ddX5_execute_81 : decode cX5_execute 81 = .ok (.invokevirtual 243, 3) := by decide +kernel
theorem ddX5_execute_84 : decode cX5_execute 84 = .ok (.istore_n 3, 1) := by decide +kernel
theorem ddX5_execute_85 : decode cX5_execute 85 = .ok (.aload_n 0, 1) := by decide +kernel
theorem ddX5_execute_86 : decode cX5_execute 86 = .ok (.getfield 42, 3) := by decide +kernel
theorem ddX5_execute_89 : decode cX5_execute 89 = .ok (.ifCond .ne (-27), 3) := by decide +kernel
theorem ddX5_execute_92 : decode cX5_execute 92 = .ok (.iinc 2 1, 3) := by decide +kernel
theorem ddX5_execute_95 : decode cX5_execute 95 = .ok (.goto (-33), 3) := by decide +kernel
theorem ddX5_execute_98 : decode cX5_execute 98 = .ok (.aload_n 0, 1) := by decide +kernel
theorem ddX5_execute_99 : decode cX5_execute 99 = .ok (.iconst 0, 1) := by decide +kernel
theorem ddX5_execute_100 : decode cX5_execute 100 = .ok (.putfield 45, 3) := by decide +kernel
theorem ddX5_execute_103 : decode cX5_execute 103 = .ok (.aload_n 0, 1) := by decide +kernel
theorem ddX5_execute_104 : decode cX5_execute 104 = .ok (.getfield 42, 3) := by decide +kernel
theorem ddX5_execute_107 : decode cX5_execute 107 = .ok (.ifCond .le 36, 3) := by decide +kernel
theorem ddX5_execute_110 : decode cX5_execute 110 = .ok (.aload_n 0, 1) := by decide +kernel
theorem ddX5_execute_111 : decode cX5_execute 111 = .ok (.getfield 19, 3) := by decide +kernel
theorem ddX5_execute_114 : decode cX5_execute 114 = .ok (.iconst 0, 1) := by decide +kernel
theorem ddX5_execute_115 : decode cX5_execute 115 = .ok (.aload_n 0, 1) := by decide +kernel
theorem ddX5_execute_116 : decode cX5_execute 116 = .ok (.getfield 7, 3) := by decide +kernel
theorem ddX5_execute_119 : decode cX5_execute 119 = .ok (.iconst 0, 1) := by decide +kernel
theorem ddX5_execute_120 : decode cX5_execute 120 = .ok (.invokestatic 52, 3) := by decide +kernel
theorem ddX5_execute_123 : decode cX5_execute 123 = .ok (.aload_n 0, 1) := by decide +kernel
theorem ddX5_execute_124 : decode cX5_execute 124 = .ok (.iload_n 2, 1) := by decide +kernel
theorem ddX5_execute_125 : decode cX5_execute 125 = .ok (.putfield 29, 3) := by decide +kernel
theorem ddX5_execute_128 : decode cX5_execute 128 = .ok (.aload_n 0, 1) := by decide +kernel
theorem ddX5_execute_129 : decode cX5_execute 129 = .ok (.iconst 2, 1) := by decide +kernel
theorem ddX5_execute_130 : decode cX5_execute 130 = .ok (.putfield 42, 3) := by decide +kernel
theorem ddX5_execute_133 : decode cX5_execute 133 = .ok (.iload_n 3, 1) := by decide +kernel
theorem ddX5_execute_134 : decode cX5_execute 134 = .ok (.ifCond .le 7, 3) := by decide +kernel
theorem ddX5_execute_137 : decode cX5_execute 137 = .ok (.iconst 0, 1) := by decide +kernel
theorem ddX5_execute_138 : decode cX5_execute 138 = .ok (.goto 4, 3) := by decide +kernel
theorem ddX5_execute_141 : decode cX5_execute 141 = .ok (.iload_n 3, 1) := by decide +kernel
theorem ddX5_execute_142 : decode cX5_execute 142 = .ok (.ireturn, 1) := by decide +kernel
theorem ddX5_execute_143 : decode cX5_execute 143 = .ok (.aload_n 0, 1) := by decide +kernel
theorem ddX5_execute_144 : decode cX5_execute 144 = .ok (.aload_n 0, 1) := by decide +kernel
theorem ddX5_execute_145 : decode cX5_execute 145 = .ok (.getfield 19, 3) := by decide +kernel
theorem ddX5_execute_148 : decode cX5_execute 148 = .ok (.invokevirtual 74, 3) := by decide +kernel
theorem ddX5_execute_151 : decode cX5_execute 151 = .ok (.aload_n 0, 1) := by decide +kernel
theorem ddX5_execute_152 : decode cX5_execute 152 = .ok (.getfield 169, 3) := by decide +kernel
theorem ddX5_execute_155 : decode cX5_execute 155 = .ok (.ireturn, 1) := by decide +kernel
theorem ddX5_errorPosition_0 : decode cX5_errorPosition 0 = .ok (.aload_n 0, 1) := by decide +kernel
theorem ddX5_errorPosition_1 : decode cX5_errorPosition 1 = .ok (.aload_n 0, 1) := by decide +kernel
theorem ddX5_errorPosition_2 : decode cX5_errorPosition 2 = .ok (.getfield 25, 3) := by decide +kernel
theorem ddX5_errorPosition_5 : decode cX5_errorPosition 5 = .ok (.ifCond .ge 7, 3) := by decide +kernel
theorem ddX5_errorPosition_8 : decode cX5_errorPosition 8 = .ok (.iconst 1, 1) := by decide +kernel
theorem ddX5_errorPosition_9 : decode cX5_errorPosition 9 = .ok (.goto 4, 3) := by decide +kernel
theorem ddX5_errorPosition_12 : decode cX5_errorPosition 12 = .ok (.iconst 0, 1) := by decide +kernel
theorem ddX5_errorPosition_13 : decode cX5_errorPosition 13 = .ok (.invokevirtual 71, 3) := by decide +kernel
theorem ddX5_errorPosition_16 : decode cX5_errorPosition 16 = .ok (.ifCond .eq 7, 3) := by decide +kernel
theorem ddX5_errorPosition_19 : decode cX5_errorPosition 19 = .ok (.iconst 0, 1) := by decide +kernel
theorem ddX5_errorPosition_20 : decode cX5_errorPosition 20 = .ok (.goto 7, 3) := by decide +kernel
theorem ddX5_errorPosition_23 : decode cX5_errorPosition 23 = .ok (.aload_n 0, 1) := by decide +kernel
theorem ddX5_errorPosition_24 : decode cX5_errorPosition 24 = .ok (.getfield 25, 3) := by decide +kernel
theorem ddX5_errorPosition_27 : decode cX5_errorPosition 27 = .ok (.ireturn, 1) := by decide +kernel
theorem ddX5_failedCommand_0 : decode cX5_failedCommand 0 = .ok (.aload_n 0, 1) := by decide +kernel
theorem ddX5_failedCommand_1 : decode cX5_failedCommand 1 = .ok (.aload_n 0, 1) := by decide +kernel
theorem ddX5_failedCommand_2 : decode cX5_failedCommand 2 = .ok (.getfield 29, 3) := by decide +kernel
theorem ddX5_failedCommand_5 : decode cX5_failedCommand 5 = .ok (.ifCond .ge 7, 3) := by decide +kernel
theorem ddX5_failedCommand_8 : decode cX5_failedCommand 8 = .ok (.iconst 1, 1) := by decide +kernel
theorem ddX5_failedCommand_9 : decode cX5_failedCommand 9 = .ok (.goto 4, 3) := by decide +kernel
theorem ddX5_failedCommand_12 : decode cX5_failedCommand 12 = .ok (.iconst 0, 1) := by decide +kernel
theorem ddX5_failedCommand_13 : decode cX5_failedCommand 13 = .ok (.invokevirtual 71, 3) := by decide +kernel
theorem ddX5_failedCommand_16 : decode cX5_failedCommand 16 = .ok (.ifCond .eq 7, 3) := by decide +kernel
theorem ddX5_failedCommand_19 : decode cX5_failedCommand 19 = .ok (.iconst 0, 1) := by decide +kernel
theorem ddX5_failedCommand_20 : decode cX5_failedCommand 20 = .ok (.goto 7, 3) := by decide +kernel
theorem ddX5_failedCommand_23 : decode cX5_failedCommand 23 = .ok (.aload_n 0, 1) := by decide +kernel
theorem ddX5_failedCommand_24 : decode cX5_failedCommand 24 = .ok (.getfield 29, 3) := by decide +kernel
theorem ddX5_failedCommand_27 : decode cX5_failedCommand 27 = .ok (.ireturn, 1) := by decide +kernel
theorem ddX5_undo_0 : decode cX5_undo 0 = .ok (.aload_n 0, 1) := by decide +kernel
theorem ddX5_undo_1 : decode cX5_undo 1 = .ok (.aload_n 0, 1) := by decide +kernel
theorem ddX5_undo_2 : decode cX5_undo 2 = .ok (.getfield 49, 3) := by decide +kernel
theorem ddX5_undo_5 : decode cX5_undo 5 = .ok (.ifCond .ne 7, 3) := by decide +kernel
theorem ddX5_undo_8 : decode cX5_undo 8 = .ok (.iconst 1, 1) := by decide +kernel
theorem ddX5_undo_9 : decode cX5_undo 9 = .ok (.goto 4, 3) := by decide +kernel
theorem ddX5_undo_12 : decode cX5_undo 12 = .ok (.iconst 0, 1) := by decide +kernel
theorem ddX5_undo_13 : decode cX5_undo 13 = .ok (.invokevirtual 71, 3) := by decide +kernel
theorem ddX5_undo_16 : decode cX5_undo 16 = .ok (.ifCond .eq 5, 3) := by decide +kernel
theorem ddX5_undo_19 : decode cX5_undo 19 = .ok (.iconst 0, 1) := by decide +kernel
theorem ddX5_undo_20 : decode cX5_undo 20 = .ok (.ireturn, 1) := by decide +kernel
theorem ddX5_undo_21 : decode cX5_undo 21 = .ok (.aload_n 0, 1) := by decide +kernel
theorem ddX5_undo_22 : decode cX5_undo 22 = .ok (.dup, 1) := by decide +kernel
theorem ddX5_undo_23 : decode cX5_undo 23 = .ok (.getfield 49, 3) := by decide +kernel
theorem ddX5_undo_26 : decode cX5_undo 26 = .ok (.iconst 1, 1) := by decide +kernel
theorem ddX5_undo_27 : decode cX5_undo 27 = .ok (.isub, 1) := by decide +kernel
theorem ddX5_undo_28 : decode cX5_undo 28 = .ok (.putfield 49, 3) := by decide +kernel
theorem ddX5_undo_31 : decode cX5_undo 31 = .ok (.aload_n 0, 1) := by decide +kernel
theorem ddX5_undo_32 : decode cX5_undo 32 = .ok (.getfield 13, 3) := by decide +kernel
theorem ddX5_undo_35 : decode cX5_undo 35 = .ok (.sipush 179, 3) := by decide +kernel
theorem ddX5_undo_38 : decode cX5_undo 38 = .ok (.aload_n 0, 1) := by decide +kernel
theorem ddX5_undo_39 : decode cX5_undo 39 = .ok (.getfield 49, 3) := by decide +kernel
theorem ddX5_undo_42 : decode cX5_undo 42 = .ok (.imul, 1) := by decide +kernel
theorem ddX5_undo_43 : decode cX5_undo 43 = .ok (.aload_n 0, 1) := by decide +kernel
theorem ddX5_undo_44 : decode cX5_undo 44 = .ok (.getfield 7, 3) := by decide +kernel
theorem ddX5_undo_47 : decode cX5_undo 47 = .ok (.iconst 0, 1) := by decide +kernel
theorem ddX5_undo_48 : decode cX5_undo 48 = .ok (.invokestatic 52, 3) := by decide +kernel
theorem ddX5_undo_51 : decode cX5_undo 51 = .ok (.aload_n 0, 1) := by decide +kernel
theorem ddX5_undo_52 : decode cX5_undo 52 = .ok (.getfield 49, 3) := by decide +kernel
theorem ddX5_undo_55 : decode cX5_undo 55 = .ok (.ireturn, 1) := by decide +kernel
theorem ddX5_undoCount_0 : decode cX5_undoCount 0 = .ok (.aload_n 0, 1) := by decide +kernel
theorem ddX5_undoCount_1 : decode cX5_undoCount 1 = .ok (.iconst 0, 1) := by decide +kernel
theorem ddX5_undoCount_2 : decode cX5_undoCount 2 = .ok (.putfield 42, 3) := by decide +kernel
theorem ddX5_undoCount_5 : decode cX5_undoCount 5 = .ok (.aload_n 0, 1) := by decide +kernel
theorem ddX5_undoCount_6 : decode cX5_undoCount 6 = .ok (.getfield 49, 3) := by decide +kernel
theorem ddX5_undoCount_9 : decode cX5_undoCount 9 = .ok (.ireturn, 1) := by decide +kernel
theorem ddX5_save_0 : decode cX5_save 0 = .ok (.aload_n 0, 1) := by decide +kernel
theorem ddX5_save_1 : decode cX5_save 1 = .ok (.iconst 0, 1) := by decide +kernel
theorem ddX5_save_2 : decode cX5_save 2 = .ok (.putfield 42, 3) := by decide +kernel
theorem ddX5_save_5 : decode cX5_save 5 = .ok (.aload_n 0, 1) := by decide +kernel
theorem ddX5_save_6 : decode cX5_save 6 = .ok (.iconst 1, 1) := by decide +kernel
theorem ddX5_save_7 : decode cX5_save 7 = .ok (.putfield 246, 3) := by decide +kernel
theorem ddX5_save_10 : decode cX5_save 10 = .ok (.aload_n 0, 1) := by decide +kernel
theorem ddX5_save_11 : decode cX5_save 11 = .ok (.getfield 7, 3) := by decide +kernel
theorem ddX5_save_14 : decode cX5_save 14 = .ok (.iconst 0, 1) := by decide +kernel
theorem ddX5_save_15 : decode cX5_save 15 = .ok (.aload_n 0, 1) := by decide +kernel
theorem ddX5_save_16 : decode cX5_save 16 = .ok (.getfield 16, 3) := by decide +kernel
theorem ddX5_save_19 : decode cX5_save 19 = .ok (.iconst 0, 1) := by decide +kernel
theorem ddX5_save_20 : decode cX5_save 20 = .ok (.invokestatic 52, 3) := by decide +kernel
theorem ddX5_save_23 : decode cX5_save 23 = .ok (.aload_n 0, 1) := by decide +kernel
theorem ddX5_save_24 : decode cX5_save 24 = .ok (.getfield 7, 3) := by decide +kernel
theorem ddX5_save_27 : decode cX5_save 27 = .ok (.iconst 1, 1) := by decide +kernel
theorem ddX5_save_28 : decode cX5_save 28 = .ok (.iaload, 1) := by decide +kernel
theorem ddX5_save_29 : decode cX5_save 29 = .ok (.ireturn, 1) := by decide +kernel
theorem ddX5_restore_0 : decode cX5_restore 0 = .ok (.aload_n 0, 1) := by decide +kernel
theorem ddX5_restore_1 : decode cX5_restore 1 = .ok (.aload_n 0, 1) := by decide +kernel
theorem ddX5_restore_2 : decode cX5_restore 2 = .ok (.getfield 246, 3) := by decide +kernel
theorem ddX5_restore_5 : decode cX5_restore 5 = .ok (.ifCond .eq 7, 3) := by decide +kernel
theorem ddX5_restore_8 : decode cX5_restore 8 = .ok (.iconst 0, 1) := by decide +kernel
theorem ddX5_restore_9 : decode cX5_restore 9 = .ok (.goto 4, 3) := by decide +kernel
theorem ddX5_restore_12 : decode cX5_restore 12 = .ok (.iconst 1, 1) := by decide +kernel
theorem ddX5_restore_13 : decode cX5_restore 13 = .ok (.invokevirtual 71, 3) := by decide +kernel
theorem ddX5_restore_16 : decode cX5_restore 16 = .ok (.ifCond .eq 5, 3) := by decide +kernel
theorem ddX5_restore_19 : decode cX5_restore 19 = .ok (.iconst 0, 1) := by decide +kernel
theorem ddX5_restore_20 : decode cX5_restore 20 = .ok (.ireturn, 1) := by decide +kernel
theorem ddX5_restore_21 : decode cX5_restore 21 = .ok (.aload_n 0, 1) := by decide +kernel
theorem ddX5_restore_22 : decode cX5_restore 22 = .ok (.getfield 16, 3) := by decide +kernel
theorem ddX5_restore_25 : decode cX5_restore 25 = .ok (.iconst 0, 1) := by decide +kernel
theorem ddX5_restore_26 : decode cX5_restore 26 = .ok (.aload_n 0, 1) := by decide +kernel
theorem ddX5_restore_27 : decode cX5_restore 27 = .ok (.getfield 7, 3) := by decide +kernel
theorem ddX5_restore_30 : decode cX5_restore 30 = .ok (.iconst 0, 1) := by decide +kernel
theorem ddX5_restore_31 : decode cX5_restore 31 = .ok (.invokestatic 52, 3) := by decide +kernel
theorem ddX5_restore_34 : decode cX5_restore 34 = .ok (.aload_n 0, 1) := by decide +kernel
theorem ddX5_restore_35 : decode cX5_restore 35 = .ok (.iconst 0, 1) := by decide +kernel
theorem ddX5_restore_36 : decode cX5_restore 36 = .ok (.putfield 49, 3) := by decide +kernel
theorem ddX5_restore_39 : decode cX5_restore 39 = .ok (.aload_n 0, 1) := by decide +kernel
theorem ddX5_restore_40 : decode cX5_restore 40 = .ok (.getfield 7, 3) := by decide +kernel
theorem ddX5_restore_43 : decode cX5_restore 43 = .ok (.iconst 1, 1) := by decide +kernel
theorem ddX5_restore_44 : decode cX5_restore 44 = .ok (.iaload, 1) := by decide +kernel
theorem ddX5_restore_45 : decode cX5_restore 45 = .ok (.ireturn, 1) := by decide +kernel
theorem ddJ6_numberOfTrailingZeros_0f7a4_0 : decode cJ6_numberOfTrailingZeros_0f7a4 0 = .ok (.iload_n 0, 1) := by decide +kernel
theorem ddJ6_numberOfTrailingZeros_0f7a4_1 : decode cJ6_numberOfTrailingZeros_0f7a4 1 = .ok (.iconst (-1), 1) := by decide +kernel
theorem ddJ6_numberOfTrailingZeros_0f7a4_2 : decode cJ6_numberOfTrailingZeros_0f7a4 2 = .ok (.ixor, 1) := by decide +kernel
theorem ddJ6_numberOfTrailingZeros_0f7a4_3 : decode cJ6_numberOfTrailingZeros_0f7a4 3 = .ok (.iload_n 0, 1) := by decide +kernel
theorem ddJ6_numberOfTrailingZeros_0f7a4_4 : decode cJ6_numberOfTrailingZeros_0f7a4 4 = .ok (.iconst 1, 1) := by decide +kernel
theorem ddJ6_numberOfTrailingZeros_0f7a4_5 : decode cJ6_numberOfTrailingZeros_0f7a4 5 = .ok (.isub, 1) := by decide +kernel
theorem ddJ6_numberOfTrailingZeros_0f7a4_6 : decode cJ6_numberOfTrailingZeros_0f7a4 6 = .ok (.iand, 1) := by decide +kernel
theorem ddJ6_numberOfTrailingZeros_0f7a4_7 : decode cJ6_numberOfTrailingZeros_0f7a4 7 = .ok (.istore_n 0, 1) := by decide +kernel
theorem ddJ6_numberOfTrailingZeros_0f7a4_8 : decode cJ6_numberOfTrailingZeros_0f7a4 8 = .ok (.iload_n 0, 1) := by decide +kernel
theorem ddJ6_numberOfTrailingZeros_0f7a4_9 : decode cJ6_numberOfTrailingZeros_0f7a4 9 = .ok (.ifCond .gt 8, 3) := by decide +kernel
theorem ddJ6_numberOfTrailingZeros_0f7a4_12 : decode cJ6_numberOfTrailingZeros_0f7a4 12 = .ok (.iload_n 0, 1) := by decide +kernel
theorem ddJ6_numberOfTrailingZeros_0f7a4_13 : decode cJ6_numberOfTrailingZeros_0f7a4 13 = .ok (.bipush 32, 2) := by decide +kernel
theorem ddJ6_numberOfTrailingZeros_0f7a4_15 : decode cJ6_numberOfTrailingZeros_0f7a4 15 = .ok (.iand, 1) := by decide +kernel
theorem ddJ6_numberOfTrailingZeros_0f7a4_16 : decode cJ6_numberOfTrailingZeros_0f7a4 16 = .ok (.ireturn, 1) := by decide +kernel
theorem ddJ6_numberOfTrailingZeros_0f7a4_17 : decode cJ6_numberOfTrailingZeros_0f7a4 17 = .ok (.iconst 1, 1) := by decide +kernel
theorem ddJ6_numberOfTrailingZeros_0f7a4_18 : decode cJ6_numberOfTrailingZeros_0f7a4 18 = .ok (.istore_n 1, 1) := by decide +kernel
theorem ddJ6_numberOfTrailingZeros_0f7a4_19 : decode cJ6_numberOfTrailingZeros_0f7a4 19 = .ok (.iload_n 0, 1) := by decide +kernel
theorem ddJ6_numberOfTrailingZeros_0f7a4_20 : decode cJ6_numberOfTrailingZeros_0f7a4 20 = .ok (.ldc_w 264, 3) := by decide +kernel
theorem ddJ6_numberOfTrailingZeros_0f7a4_23 : decode cJ6_numberOfTrailingZeros_0f7a4 23 = .ok (.if_icmp .le 11, 3) := by decide +kernel
theorem ddJ6_numberOfTrailingZeros_0f7a4_26 : decode cJ6_numberOfTrailingZeros_0f7a4 26 = .ok (.iinc 1 16, 3) := by decide +kernel
theorem ddJ6_numberOfTrailingZeros_0f7a4_29 : decode cJ6_numberOfTrailingZeros_0f7a4 29 = .ok (.iload_n 0, 1) := by decide +kernel
theorem ddJ6_numberOfTrailingZeros_0f7a4_30 : decode cJ6_numberOfTrailingZeros_0f7a4 30 = .ok (.bipush 16, 2) := by decide +kernel
theorem ddJ6_numberOfTrailingZeros_0f7a4_32 : decode cJ6_numberOfTrailingZeros_0f7a4 32 = .ok (.iushr, 1) := by decide +kernel
theorem ddJ6_numberOfTrailingZeros_0f7a4_33 : decode cJ6_numberOfTrailingZeros_0f7a4 33 = .ok (.istore_n 0, 1) := by decide +kernel
theorem ddJ6_numberOfTrailingZeros_0f7a4_34 : decode cJ6_numberOfTrailingZeros_0f7a4 34 = .ok (.iload_n 0, 1) := by decide +kernel
theorem ddJ6_numberOfTrailingZeros_0f7a4_35 : decode cJ6_numberOfTrailingZeros_0f7a4 35 = .ok (.sipush 256, 3) := by decide +kernel
theorem ddJ6_numberOfTrailingZeros_0f7a4_38 : decode cJ6_numberOfTrailingZeros_0f7a4 38 = .ok (.if_icmp .le 11, 3) := by decide +kernel
theorem ddJ6_numberOfTrailingZeros_0f7a4_41 : decode cJ6_numberOfTrailingZeros_0f7a4 41 = .ok (.iinc 1 8, 3) := by decide +kernel
theorem ddJ6_numberOfTrailingZeros_0f7a4_44 : decode cJ6_numberOfTrailingZeros_0f7a4 44 = .ok (.iload_n 0, 1) := by decide +kernel
theorem ddJ6_numberOfTrailingZeros_0f7a4_45 : decode cJ6_numberOfTrailingZeros_0f7a4 45 = .ok (.bipush 8, 2) := by decide +kernel
theorem ddJ6_numberOfTrailingZeros_0f7a4_47 : decode cJ6_numberOfTrailingZeros_0f7a4 47 = .ok (.iushr, 1) := by decide +kernel
theorem ddJ6_numberOfTrailingZeros_0f7a4_48 : decode cJ6_numberOfTrailingZeros_0f7a4 48 = .ok (.istore_n 0, 1) := by decide +kernel
theorem ddJ6_numberOfTrailingZeros_0f7a4_49 : decode cJ6_numberOfTrailingZeros_0f7a4 49 = .ok (.iload_n 0, 1) := by decide +kernel
theorem ddJ6_numberOfTrailingZeros_0f7a4_50 : decode cJ6_numberOfTrailingZeros_0f7a4 50 = .ok (.bipush 16, 2) := by decide +kernel
theorem ddJ6_numberOfTrailingZeros_0f7a4_52 : decode cJ6_numberOfTrailingZeros_0f7a4 52 = .ok (.if_icmp .le 10, 3) := by decide +kernel
theorem ddJ6_numberOfTrailingZeros_0f7a4_55 : decode cJ6_numberOfTrailingZeros_0f7a4 55 = .ok (.iinc 1 4, 3) := by decide +kernel
theorem ddJ6_numberOfTrailingZeros_0f7a4_58 : decode cJ6_numberOfTrailingZeros_0f7a4 58 = .ok (.iload_n 0, 1) := by decide +kernel
theorem ddJ6_numberOfTrailingZeros_0f7a4_59 : decode cJ6_numberOfTrailingZeros_0f7a4 59 = .ok (.iconst 4, 1) := by decide +kernel
theorem ddJ6_numberOfTrailingZeros_0f7a4_60 : decode cJ6_numberOfTrailingZeros_0f7a4 60 = .ok (.iushr, 1) := by decide +kernel
theorem ddJ6_numberOfTrailingZeros_0f7a4_61 : decode cJ6_numberOfTrailingZeros_0f7a4 61 = .ok (.istore_n 0, 1) := by decide +kernel
theorem ddJ6_numberOfTrailingZeros_0f7a4_62 : decode cJ6_numberOfTrailingZeros_0f7a4 62 = .ok (.iload_n 0, 1) := by decide +kernel
theorem ddJ6_numberOfTrailingZeros_0f7a4_63 : decode cJ6_numberOfTrailingZeros_0f7a4 63 = .ok (.iconst 4, 1) := by decide +kernel
theorem ddJ6_numberOfTrailingZeros_0f7a4_64 : decode cJ6_numberOfTrailingZeros_0f7a4 64 = .ok (.if_icmp .le 10, 3) := by decide +kernel
theorem ddJ6_numberOfTrailingZeros_0f7a4_67 : decode cJ6_numberOfTrailingZeros_0f7a4 67 = .ok (.iinc 1 2, 3) := by decide +kernel
theorem ddJ6_numberOfTrailingZeros_0f7a4_70 : decode cJ6_numberOfTrailingZeros_0f7a4 70 = .ok (.iload_n 0, 1) := by decide +kernel
theorem ddJ6_numberOfTrailingZeros_0f7a4_71 : decode cJ6_numberOfTrailingZeros_0f7a4 71 = .ok (.iconst 2, 1) := by decide +kernel
theorem ddJ6_numberOfTrailingZeros_0f7a4_72 : decode cJ6_numberOfTrailingZeros_0f7a4 72 = .ok (.iushr, 1) := by decide +kernel
theorem ddJ6_numberOfTrailingZeros_0f7a4_73 : decode cJ6_numberOfTrailingZeros_0f7a4 73 = .ok (.istore_n 0, 1) := by decide +kernel
theorem ddJ6_numberOfTrailingZeros_0f7a4_74 : decode cJ6_numberOfTrailingZeros_0f7a4 74 = .ok (.iload_n 1, 1) := by decide +kernel
theorem ddJ6_numberOfTrailingZeros_0f7a4_75 : decode cJ6_numberOfTrailingZeros_0f7a4 75 = .ok (.iload_n 0, 1) := by decide +kernel
theorem ddJ6_numberOfTrailingZeros_0f7a4_76 : decode cJ6_numberOfTrailingZeros_0f7a4 76 = .ok (.iconst 1, 1) := by decide +kernel
theorem ddJ6_numberOfTrailingZeros_0f7a4_77 : decode cJ6_numberOfTrailingZeros_0f7a4 77 = .ok (.iushr, 1) := by decide +kernel
theorem ddJ6_numberOfTrailingZeros_0f7a4_78 : decode cJ6_numberOfTrailingZeros_0f7a4 78 = .ok (.iadd, 1) := by decide +kernel
theorem ddJ6_numberOfTrailingZeros_0f7a4_79 : decode cJ6_numberOfTrailingZeros_0f7a4 79 = .ok (.ireturn, 1) := by decide +kernel
theorem ddJ6_bitCount_0f7a4_0 : decode cJ6_bitCount_0f7a4 0 = .ok (.iload_n 0, 1) := by decide +kernel
theorem ddJ6_bitCount_0f7a4_1 : decode cJ6_bitCount_0f7a4 1 = .ok (.iload_n 0, 1) := by decide +kernel
theorem ddJ6_bitCount_0f7a4_2 : decode cJ6_bitCount_0f7a4 2 = .ok (.iconst 1, 1) := by decide +kernel
theorem ddJ6_bitCount_0f7a4_3 : decode cJ6_bitCount_0f7a4 3 = .ok (.iushr, 1) := by decide +kernel
theorem ddJ6_bitCount_0f7a4_4 : decode cJ6_bitCount_0f7a4 4 = .ok (.ldc_w 265, 3) := by decide +kernel
theorem ddJ6_bitCount_0f7a4_7 : decode cJ6_bitCount_0f7a4 7 = .ok (.iand, 1) := by decide +kernel
theorem ddJ6_bitCount_0f7a4_8 : decode cJ6_bitCount_0f7a4 8 = .ok (.isub, 1) := by decide +kernel
theorem ddJ6_bitCount_0f7a4_9 : decode cJ6_bitCount_0f7a4 9 = .ok (.istore_n 0, 1) := by decide +kernel
theorem ddJ6_bitCount_0f7a4_10 : decode cJ6_bitCount_0f7a4 10 = .ok (.iload_n 0, 1) := by decide +kernel
theorem ddJ6_bitCount_0f7a4_11 : decode cJ6_bitCount_0f7a4 11 = .ok (.ldc_w 266, 3) := by decide +kernel
theorem ddJ6_bitCount_0f7a4_14 : decode cJ6_bitCount_0f7a4 14 = .ok (.iand, 1) := by decide +kernel
theorem ddJ6_bitCount_0f7a4_15 : decode cJ6_bitCount_0f7a4 15 = .ok (.iload_n 0, 1) := by decide +kernel
theorem ddJ6_bitCount_0f7a4_16 : decode cJ6_bitCount_0f7a4 16 = .ok (.iconst 2, 1) := by decide +kernel
theorem ddJ6_bitCount_0f7a4_17 : decode cJ6_bitCount_0f7a4 17 = .ok (.iushr, 1) := by decide +kernel
theorem ddJ6_bitCount_0f7a4_18 : decode cJ6_bitCount_0f7a4 18 = .ok (.ldc_w 266, 3) := by decide +kernel
theorem ddJ6_bitCount_0f7a4_21 : decode cJ6_bitCount_0f7a4 21 = .ok (.iand, 1) := by decide +kernel
theorem ddJ6_bitCount_0f7a4_22 : decode cJ6_bitCount_0f7a4 22 = .ok (.iadd, 1) := by decide +kernel
theorem ddJ6_bitCount_0f7a4_23 : decode cJ6_bitCount_0f7a4 23 = .ok (.istore_n 0, 1) := by decide +kernel
theorem ddJ6_bitCount_0f7a4_24 : decode cJ6_bitCount_0f7a4 24 = .ok (.iload_n 0, 1) := by decide +kernel
theorem ddJ6_bitCount_0f7a4_25 : decode cJ6_bitCount_0f7a4 25 = .ok (.iload_n 0, 1) := by decide +kernel
theorem ddJ6_bitCount_0f7a4_26 : decode cJ6_bitCount_0f7a4 26 = .ok (.iconst 4, 1) := by decide +kernel
theorem ddJ6_bitCount_0f7a4_27 : decode cJ6_bitCount_0f7a4 27 = .ok (.iushr, 1) := by decide +kernel
theorem ddJ6_bitCount_0f7a4_28 : decode cJ6_bitCount_0f7a4 28 = .ok (.iadd, 1) := by decide +kernel
theorem ddJ6_bitCount_0f7a4_29 : decode cJ6_bitCount_0f7a4 29 = .ok (.ldc_w 267, 3) := by decide +kernel
theorem ddJ6_bitCount_0f7a4_32 : decode cJ6_bitCount_0f7a4 32 = .ok (.iand, 1) := by decide +kernel
theorem ddJ6_bitCount_0f7a4_33 : decode cJ6_bitCount_0f7a4 33 = .ok (.istore_n 0, 1) := by decide +kernel
theorem ddJ6_bitCount_0f7a4_34 : decode cJ6_bitCount_0f7a4 34 = .ok (.iload_n 0, 1) := by decide +kernel
theorem ddJ6_bitCount_0f7a4_35 : decode cJ6_bitCount_0f7a4 35 = .ok (.iload_n 0, 1) := by decide +kernel
theorem ddJ6_bitCount_0f7a4_36 : decode cJ6_bitCount_0f7a4 36 = .ok (.bipush 8, 2) := by decide +kernel
theorem ddJ6_bitCount_0f7a4_38 : decode cJ6_bitCount_0f7a4 38 = .ok (.iushr, 1) := by decide +kernel
theorem ddJ6_bitCount_0f7a4_39 : decode cJ6_bitCount_0f7a4 39 = .ok (.iadd, 1) := by decide +kernel
theorem ddJ6_bitCount_0f7a4_40 : decode cJ6_bitCount_0f7a4 40 = .ok (.istore_n 0, 1) := by decide +kernel
theorem ddJ6_bitCount_0f7a4_41 : decode cJ6_bitCount_0f7a4 41 = .ok (.iload_n 0, 1) := by decide +kernel
theorem ddJ6_bitCount_0f7a4_42 : decode cJ6_bitCount_0f7a4 42 = .ok (.iload_n 0, 1) := by decide +kernel
theorem ddJ6_bitCount_0f7a4_43 : decode cJ6_bitCount_0f7a4 43 = .ok (.bipush 16, 2) := by decide +kernel
theorem ddJ6_bitCount_0f7a4_45 : decode cJ6_bitCount_0f7a4 45 = .ok (.iushr, 1) := by decide +kernel
theorem ddJ6_bitCount_0f7a4_46 : decode cJ6_bitCount_0f7a4 46 = .ok (.iadd, 1) := by decide +kernel
theorem ddJ6_bitCount_0f7a4_47 : decode cJ6_bitCount_0f7a4 47 = .ok (.istore_n 0, 1) := by decide +kernel
theorem ddJ6_bitCount_0f7a4_48 : decode cJ6_bitCount_0f7a4 48 = .ok (.iload_n 0, 1) := by decide +kernel
theorem ddJ6_bitCount_0f7a4_49 : decode cJ6_bitCount_0f7a4 49 = .ok (.bipush 63, 2) := by decide +kernel
theorem ddJ6_bitCount_0f7a4_51 : decode cJ6_bitCount_0f7a4 51 = .ok (.iand, 1) := by decide +kernel
theorem ddJ6_bitCount_0f7a4_52 : decode cJ6_bitCount_0f7a4 52 = .ok (.ireturn, 1) := by decide +kernel
theorem ddJ0_length_8abf5_0 : decode cJ0_length_8abf5 0 = .ok (.aload_n 0, 1) := by decide +kernel
theorem ddJ0_length_8abf5_1 : decode cJ0_length_8abf5 1 = .ok (.getfield 9, 3) := by decide +kernel
theorem ddJ0_length_8abf5_4 : decode cJ0_length_8abf5 4 = .ok (.arraylength, 1) := by decide +kernel
theorem ddJ0_length_8abf5_5 : decode cJ0_length_8abf5 5 = .ok (.aload_n 0, 1) := by decide +kernel
theorem ddJ0_length_8abf5_6 : decode cJ0_length_8abf5 6 = .ok (.invokevirtual 335, 3) := by decide +kernel
theorem ddJ0_length_8abf5_9 : decode cJ0_length_8abf5 9 = .ok (.ishr, 1) := by decide +kernel
theorem ddJ0_length_8abf5_10 : decode cJ0_length_8abf5 10 = .ok (.ireturn, 1) := by decide +kernel
theorem ddJ0_charAt_5068e_0 : decode cJ0_charAt_5068e 0 = .ok (.aload_n 0, 1) := by decide +kernel
theorem ddJ0_charAt_5068e_1 : decode cJ0_charAt_5068e 1 = .ok (.invokevirtual 492, 3) := by decide +kernel
theorem ddJ0_charAt_5068e_4 : decode cJ0_charAt_5068e 4 = .ok (.ifCond .eq 12, 3) := by decide +kernel
theorem ddJ0_charAt_5068e_7 : decode cJ0_charAt_5068e 7 = .ok (.aload_n 0, 1) := by decide +kernel
theorem ddJ0_charAt_5068e_8 : decode cJ0_charAt_5068e 8 = .ok (.getfield 9, 3) := by decide +kernel
theorem ddJ0_charAt_5068e_11 : decode cJ0_charAt_5068e 11 = .ok (.iload_n 1, 1) := by decide +kernel
theorem ddJ0_charAt_5068e_12 : decode cJ0_charAt_5068e 12 = .ok (.invokestatic 495, 3) := by decide +kernel
theorem ddJ0_charAt_5068e_15 : decode cJ0_charAt_5068e 15 = .ok (.ireturn, 1) := by decide +kernel
theorem ddJ0_charAt_5068e_16 : decode cJ0_charAt_5068e 16 = .ok (.aload_n 0, 1) := by decide +kernel
theorem ddJ0_charAt_5068e_17 : decode cJ0_charAt_5068e 17 = .ok (.getfield 9, 3) := by decide +kernel
theorem ddJ0_charAt_5068e_20 : decode cJ0_charAt_5068e 20 = .ok (.iload_n 1, 1) := by decide +kernel
theorem ddJ0_charAt_5068e_21 : decode cJ0_charAt_5068e 21 = .ok (.invokestatic 498, 3) := by decide +kernel
theorem ddJ0_charAt_5068e_24 : decode cJ0_charAt_5068e 24 = .ok (.ireturn, 1) := by decide +kernel
theorem ddJ0_coder_7d493_0 : decode cJ0_coder_7d493 0 = .ok (.getstatic 38, 3) := by decide +kernel
theorem ddJ0_coder_7d493_3 : decode cJ0_coder_7d493 3 = .ok (.ifCond .eq 10, 3) := by decide +kernel
theorem ddJ0_coder_7d493_6 : decode cJ0_coder_7d493 6 = .ok (.aload_n 0, 1) := by decide +kernel
theorem ddJ0_coder_7d493_7 : decode cJ0_coder_7d493 7 = .ok (.getfield 15, 3) := by decide +kernel
theorem ddJ0_coder_7d493_10 : decode cJ0_coder_7d493 10 = .ok (.goto 4, 3) := by decide +kernel
theorem ddJ0_coder_7d493_13 : decode cJ0_coder_7d493 13 = .ok (.iconst 1, 1) := by decide +kernel
theorem ddJ0_coder_7d493_14 : decode cJ0_coder_7d493 14 = .ok (.ireturn, 1) := by decide +kernel
theorem ddJ0_isLatin1_aae02_0 : decode cJ0_isLatin1_aae02 0 = .ok (.getstatic 38, 3) := by decide +kernel
theorem ddJ0_isLatin1_aae02_3 : decode cJ0_isLatin1_aae02 3 = .ok (.ifCond .eq 14, 3) := by decide +kernel
theorem ddJ0_isLatin1_aae02_6 : decode cJ0_isLatin1_aae02 6 = .ok (.aload_n 0, 1) := by decide +kernel
theorem ddJ0_isLatin1_aae02_7 : decode cJ0_isLatin1_aae02 7 = .ok (.getfield 15, 3) := by decide +kernel
theorem ddJ0_isLatin1_aae02_10 : decode cJ0_isLatin1_aae02 10 = .ok (.ifCond .ne 7, 3) := by decide +kernel
theorem ddJ0_isLatin1_aae02_13 : decode cJ0_isLatin1_aae02 13 = .ok (.iconst 1, 1) := by decide +kernel
theorem ddJ0_isLatin1_aae02_14 : decode cJ0_isLatin1_aae02 14 = .ok (.goto 4, 3) := by decide +kernel
theorem ddJ0_isLatin1_aae02_17 : decode cJ0_isLatin1_aae02 17 = .ok (.iconst 0, 1) := by decide +kernel
theorem ddJ0_isLatin1_aae02_18 : decode cJ0_isLatin1_aae02 18 = .ok (.ireturn, 1) := by decide +kernel
theorem ddJ0_checkIndex_df160_0 : decode cJ0_checkIndex_df160 0 = .ok (.iload_n 0, 1) := by decide +kernel
theorem ddJ0_checkIndex_df160_1 : decode cJ0_checkIndex_df160 1 = .ok (.iload_n 1, 1) := by decide +kernel
theorem ddJ0_checkIndex_df160_2 : decode cJ0_checkIndex_df160 2 = .ok (.getstatic 1053, 3) := by decide +kernel
theorem ddJ0_checkIndex_df160_5 : decode cJ0_checkIndex_df160 5 = .ok (.invokestatic 1059, 3) := by decide +kernel
theorem ddJ0_checkIndex_df160_8 : decode cJ0_checkIndex_df160 8 = .ok (.pop, 1) := by decide +kernel
theorem ddJ0_checkIndex_df160_9 : decode cJ0_checkIndex_df160 9 = .ok (.return_, 1) := by decide +kernel
theorem ddJ1_charAt_3b067_0 : decode cJ1_charAt_3b067 0 = .ok (.iload_n 1, 1) := by decide +kernel
theorem ddJ1_charAt_3b067_1 : decode cJ1_charAt_3b067 1 = .ok (.aload_n 0, 1) := by decide +kernel
theorem ddJ1_charAt_3b067_2 : decode cJ1_charAt_3b067 2 = .ok (.arraylength, 1) := by decide +kernel
theorem ddJ1_charAt_3b067_3 : decode cJ1_charAt_3b067 3 = .ok (.invokestatic 9, 3) := by decide +kernel
theorem ddJ1_charAt_3b067_6 : decode cJ1_charAt_3b067 6 = .ok (.aload_n 0, 1) := by decide +kernel
theorem ddJ1_charAt_3b067_7 : decode cJ1_charAt_3b067 7 = .ok (.iload_n 1, 1) := by decide +kernel
theorem ddJ1_charAt_3b067_8 : decode cJ1_charAt_3b067 8 = .ok (.baload, 1) := by decide +kernel
theorem ddJ1_charAt_3b067_9 : decode cJ1_charAt_3b067 9 = .ok (.sipush 255, 3) := by decide +kernel
theorem ddJ1_charAt_3b067_12 : decode cJ1_charAt_3b067 12 = .ok (.iand, 1) := by decide +kernel
theorem ddJ1_charAt_3b067_13 : decode cJ1_charAt_3b067 13 = .ok (.i2c, 1) := by decide +kernel
theorem ddJ1_charAt_3b067_14 : decode cJ1_charAt_3b067 14 = .ok (.ireturn, 1) := by decide +kernel
theorem ddJ3_checkIndex_8e157_0 : decode cJ3_checkIndex_8e157 0 = .ok (.iload_n 0, 1) := by decide +kernel
theorem ddJ3_checkIndex_8e157_1 : decode cJ3_checkIndex_8e157 1 = .ok (.ifCond .lt 8, 3) := by decide +kernel
theorem ddJ3_checkIndex_8e157_4 : decode cJ3_checkIndex_8e157 4 = .ok (.iload_n 0, 1) := by decide +kernel
theorem ddJ3_checkIndex_8e157_5 : decode cJ3_checkIndex_8e157 5 = .ok (.iload_n 1, 1) := by decide +kernel
theorem ddJ3_checkIndex_8e157_6 : decode cJ3_checkIndex_8e157 6 = .ok (.if_icmp .lt 10, 3) := by decide +kernel
theorem ddJ3_checkIndex_8e157_9 : decode cJ3_checkIndex_8e157 9 = .ok (.aload_n 2, 1) := by decide +kernel
theorem ddJ3_checkIndex_8e157_10 : decode cJ3_checkIndex_8e157 10 = .ok (.iload_n 0, 1) := by decide +kernel
theorem ddJ3_checkIndex_8e157_11 : decode cJ3_checkIndex_8e157 11 = .ok (.iload_n 1, 1) := by decide +kernel
theorem ddJ3_checkIndex_8e157_12 : decode cJ3_checkIndex_8e157 12 = .ok (.invokestatic 95, 3) := by decide +kernel
theorem ddJ3_checkIndex_8e157_15 : decode cJ3_checkIndex_8e157 15 = .ok (.athrow, 1) := by decide +kernel
theorem ddJ3_checkIndex_8e157_16 : decode cJ3_checkIndex_8e157 16 = .ok (.iload_n 0, 1) := by decide +kernel
theorem ddJ3_checkIndex_8e157_17 : decode cJ3_checkIndex_8e157 17 = .ok (.ireturn, 1) := by decide +kernel
theorem ddL_addGate_0 : decode cL_addGate 0 = .ok (.aload_n 2, 1) := by decide +kernel
theorem ddL_addGate_1 : decode cL_addGate 1 = .ok (.iconst 0, 1) := by decide +kernel
theorem ddL_addGate_2 : decode cL_addGate 2 = .ok (.aload_n 0, 1) := by decide +kernel
theorem ddL_addGate_3 : decode cL_addGate 3 = .ok (.iload_n 1, 1) := by decide +kernel
theorem ddL_addGate_4 : decode cL_addGate 4 = .ok (.invokevirtual 7, 3) := by decide +kernel
theorem ddL_addGate_7 : decode cL_addGate 7 = .ok (.i2l, 1) := by decide +kernel
theorem ddL_addGate_8 : decode cL_addGate 8 = .ok (.lastore, 1) := by decide +kernel
theorem ddL_addGate_9 : decode cL_addGate 9 = .ok (.goto 9, 3) := by decide +kernel
theorem ddL_addGate_12 : decode cL_addGate 12 = .ok (.astore_n 3, 1) := by decide +kernel
theorem ddL_addGate_13 : decode cL_addGate 13 = .ok (.iconst 1, 1) := by decide +kernel
theorem ddL_addGate_14 : decode cL_addGate 14 = .ok (.ireturn, 1) := by decide +kernel
theorem ddL_addGate_15 : decode cL_addGate 15 = .ok (.astore_n 3, 1) := by decide +kernel
theorem ddL_addGate_16 : decode cL_addGate 16 = .ok (.iconst 2, 1) := by decide +kernel
theorem ddL_addGate_17 : decode cL_addGate 17 = .ok (.ireturn, 1) := by decide +kernel
theorem ddL_addGate_18 : decode cL_addGate 18 = .ok (.iconst 0, 1) := by decide +kernel
theorem ddL_addGate_19 : decode cL_addGate 19 = .ok (.ireturn, 1) := by decide +kernel
theorem ddL_addGuard_0 : decode cL_addGuard 0 = .ok (.aload_n 2, 1) := by decide +kernel
theorem ddL_addGuard_1 : decode cL_addGuard 1 = .ok (.iconst 0, 1) := by decide +kernel
theorem ddL_addGuard_2 : decode cL_addGuard 2 = .ok (.aload_n 0, 1) := by decide +kernel
theorem ddL_addGuard_3 : decode cL_addGuard 3 = .ok (.iload_n 1, 1) := by decide +kernel
theorem ddL_addGuard_4 : decode cL_addGuard 4 = .ok (.invokevirtual 17, 3) := by decide +kernel
theorem ddL_addGuard_7 : decode cL_addGuard 7 = .ok (.i2l, 1) := by decide +kernel
theorem ddL_addGuard_8 : decode cL_addGuard 8 = .ok (.lastore, 1) := by decide +kernel
theorem ddL_addGuard_9 : decode cL_addGuard 9 = .ok (.goto 9, 3) := by decide +kernel
theorem ddL_addGuard_12 : decode cL_addGuard 12 = .ok (.astore_n 3, 1) := by decide +kernel
theorem ddL_addGuard_13 : decode cL_addGuard 13 = .ok (.iconst 1, 1) := by decide +kernel
theorem ddL_addGuard_14 : decode cL_addGuard 14 = .ok (.ireturn, 1) := by decide +kernel
theorem ddL_addGuard_15 : decode cL_addGuard 15 = .ok (.astore_n 3, 1) := by decide +kernel
theorem ddL_addGuard_16 : decode cL_addGuard 16 = .ok (.iconst 2, 1) := by decide +kernel
theorem ddL_addGuard_17 : decode cL_addGuard 17 = .ok (.ireturn, 1) := by decide +kernel
theorem ddL_addGuard_18 : decode cL_addGuard 18 = .ok (.iconst 0, 1) := by decide +kernel
theorem ddL_addGuard_19 : decode cL_addGuard 19 = .ok (.ireturn, 1) := by decide +kernel
theorem ddL_neededRank_0 : decode cL_neededRank 0 = .ok (.aload_n 2, 1) := by decide +kernel
theorem ddL_neededRank_1 : decode cL_neededRank 1 = .ok (.iconst 0, 1) := by decide +kernel
theorem ddL_neededRank_2 : decode cL_neededRank 2 = .ok (.aload_n 0, 1) := by decide +kernel
theorem ddL_neededRank_3 : decode cL_neededRank 3 = .ok (.iload_n 1, 1) := by decide +kernel
theorem ddL_neededRank_4 : decode cL_neededRank 4 = .ok (.invokevirtual 20, 3) := by decide +kernel
theorem ddL_neededRank_7 : decode cL_neededRank 7 = .ok (.i2l, 1) := by decide +kernel
theorem ddL_neededRank_8 : decode cL_neededRank 8 = .ok (.lastore, 1) := by decide +kernel
theorem ddL_neededRank_9 : decode cL_neededRank 9 = .ok (.goto 6, 3) := by decide +kernel
theorem ddL_neededRank_12 : decode cL_neededRank 12 = .ok (.astore_n 3, 1) := by decide +kernel
theorem ddL_neededRank_13 : decode cL_neededRank 13 = .ok (.iconst 1, 1) := by decide +kernel
theorem ddL_neededRank_14 : decode cL_neededRank 14 = .ok (.ireturn, 1) := by decide +kernel
theorem ddL_neededRank_15 : decode cL_neededRank 15 = .ok (.iconst 0, 1) := by decide +kernel
theorem ddL_neededRank_16 : decode cL_neededRank 16 = .ok (.ireturn, 1) := by decide +kernel
theorem ddL_rank_0 : decode cL_rank 0 = .ok (.aload_n 2, 1) := by decide +kernel
theorem ddL_rank_1 : decode cL_rank 1 = .ok (.iconst 0, 1) := by decide +kernel
theorem ddL_rank_2 : decode cL_rank 2 = .ok (.aload_n 0, 1) := by decide +kernel
theorem ddL_rank_3 : decode cL_rank 3 = .ok (.iload_n 1, 1) := by decide +kernel
theorem ddL_rank_4 : decode cL_rank 4 = .ok (.invokevirtual 25, 3) := by decide +kernel
theorem ddL_rank_7 : decode cL_rank 7 = .ok (.i2l, 1) := by decide +kernel
theorem ddL_rank_8 : decode cL_rank 8 = .ok (.lastore, 1) := by decide +kernel
theorem ddL_rank_9 : decode cL_rank 9 = .ok (.goto 6, 3) := by decide +kernel
theorem ddL_rank_12 : decode cL_rank 12 = .ok (.astore_n 3, 1) := by decide +kernel
theorem ddL_rank_13 : decode cL_rank 13 = .ok (.iconst 1, 1) := by decide +kernel
theorem ddL_rank_14 : decode cL_rank 14 = .ok (.ireturn, 1) := by decide +kernel
theorem ddL_rank_15 : decode cL_rank 15 = .ok (.iconst 0, 1) := by decide +kernel
theorem ddL_rank_16 : decode cL_rank 16 = .ok (.ireturn, 1) := by decide +kernel
theorem ddL_faints_0 : decode cL_faints 0 = .ok (.aload_n 2, 1) := by decide +kernel
theorem ddL_faints_1 : decode cL_faints 1 = .ok (.iconst 0, 1) := by decide +kernel
theorem ddL_faints_2 : decode cL_faints 2 = .ok (.aload_n 0, 1) := by decide +kernel
theorem ddL_faints_3 : decode cL_faints 3 = .ok (.iload_n 1, 1) := by decide +kernel
theorem ddL_faints_4 : decode cL_faints 4 = .ok (.invokevirtual 28, 3) := by decide +kernel
theorem ddL_faints_7 : decode cL_faints 7 = .ok (.i2l, 1) := by decide +kernel
theorem ddL_faints_8 : decode cL_faints 8 = .ok (.lastore, 1) := by decide +kernel
theorem ddL_faints_9 : decode cL_faints 9 = .ok (.goto 6, 3) := by decide +kernel
theorem ddL_faints_12 : decode cL_faints 12 = .ok (.astore_n 3, 1) := by decide +kernel
theorem ddL_faints_13 : decode cL_faints 13 = .ok (.iconst 1, 1) := by decide +kernel
theorem ddL_faints_14 : decode cL_faints 14 = .ok (.ireturn, 1) := by decide +kernel
theorem ddL_faints_15 : decode cL_faints 15 = .ok (.iconst 0, 1) := by decide +kernel
theorem ddL_faints_16 : decode cL_faints 16 = .ok (.ireturn, 1) := by decide +kernel
theorem ddL_assign_0 : decode cL_assign 0 = .ok (.aload 4, 2) := by decide +kernel
theorem ddL_assign_2 : decode cL_assign 2 = .ok (.iconst 0, 1) := by decide +kernel
theorem ddL_assign_3 : decode cL_assign 3 = .ok (.aload_n 0, 1) := by decide +kernel
theorem ddL_assign_4 : decode cL_assign 4 = .ok (.iload_n 1, 1) := by decide +kernel
theorem ddL_assign_5 : decode cL_assign 5 = .ok (.iload_n 2, 1) := by decide +kernel
theorem ddL_assign_6 : decode cL_assign 6 = .ok (.iload_n 3, 1) := by decide +kernel
theorem ddL_assign_7 : decode cL_assign 7 = .ok (.invokevirtual 31, 3) := by decide +kernel
theorem ddL_assign_10 : decode cL_assign 10 = .ok (.i2l, 1) := by decide +kernel
theorem ddL_assign_11 : decode cL_assign 11 = .ok (.lastore, 1) := by decide +kernel
theorem ddL_assign_12 : decode cL_assign 12 = .ok (.goto 15, 3) := by decide +kernel
theorem ddL_assign_15 : decode cL_assign 15 = .ok (.astore 5, 2) := by decide +kernel
theorem ddL_assign_17 : decode cL_assign 17 = .ok (.iconst 1, 1) := by decide +kernel
theorem ddL_assign_18 : decode cL_assign 18 = .ok (.ireturn, 1) := by decide +kernel
theorem ddL_assign_19 : decode cL_assign 19 = .ok (.astore 5, 2) := by decide +kernel
theorem ddL_assign_21 : decode cL_assign 21 = .ok (.iconst 2, 1) := by decide +kernel
theorem ddL_assign_22 : decode cL_assign 22 = .ok (.ireturn, 1) := by decide +kernel
theorem ddL_assign_23 : decode cL_assign 23 = .ok (.astore 5, 2) := by decide +kernel
theorem ddL_assign_25 : decode cL_assign 25 = .ok (.iconst 3, 1) := by decide +kernel
theorem ddL_assign_26 : decode cL_assign 26 = .ok (.ireturn, 1) := by decide +kernel
theorem ddL_assign_27 : decode cL_assign 27 = .ok (.iconst 0, 1) := by decide +kernel
theorem ddL_assign_28 : decode cL_assign 28 = .ok (.ireturn, 1) := by decide +kernel
theorem ddL_canAssign_0 : decode cL_canAssign 0 = .ok (.aload 4, 2) := by decide +kernel
theorem ddL_canAssign_2 : decode cL_canAssign 2 = .ok (.iconst 0, 1) := by decide +kernel
theorem ddL_canAssign_3 : decode cL_canAssign 3 = .ok (.aload_n 0, 1) := by decide +kernel
theorem ddL_canAssign_4 : decode cL_canAssign 4 = .ok (.iload_n 1, 1) := by decide +kernel
theorem ddL_canAssign_5 : decode cL_canAssign 5 = .ok (.iload_n 2, 1) := by decide +kernel
theorem ddL_canAssign_6 : decode cL_canAssign 6 = .ok (.iload_n 3, 1) := by decide +kernel
theorem ddL_canAssign_7 : decode cL_canAssign 7 = .ok (.invokevirtual 37, 3) := by decide +kernel
theorem ddL_canAssign_10 : decode cL_canAssign 10 = .ok (.ifCond .eq 7, 3) := by decide +kernel
theorem ddL_canAssign_13 : decode cL_canAssign 13 = .ok (.lconst 1, 1) := by decide +kernel
theorem ddL_canAssign_14 : decode cL_canAssign 14 = .ok (.goto 4, 3) := by decide +kernel
theorem ddL_canAssign_17 : decode cL_canAssign 17 = .ok (.lconst 0, 1) := by decide +kernel
theorem ddL_canAssign_18 : decode cL_canAssign 18 = .ok (.lastore, 1) := by decide +kernel
theorem ddL_canAssign_19 : decode cL_canAssign 19 = .ok (.goto 7, 3) := by decide +kernel
theorem ddL_canAssign_22 : decode cL_canAssign 22 = .ok (.astore 5, 2) := by decide +kernel
theorem ddL_canAssign_24 : decode cL_canAssign 24 = .ok (.iconst 1, 1) := by decide +kernel
theorem ddL_canAssign_25 : decode cL_canAssign 25 = .ok (.ireturn, 1) := by decide +kernel
theorem ddL_canAssign_26 : decode cL_canAssign 26 = .ok (.iconst 0, 1) := by decide +kernel
theorem ddL_canAssign_27 : decode cL_canAssign 27 = .ok (.ireturn, 1) := by decide +kernel
theorem ddL_remove_0 : decode cL_remove 0 = .ok (.aload_n 3, 1) := by decide +kernel
theorem ddL_remove_1 : decode cL_remove 1 = .ok (.iconst 0, 1) := by decide +kernel
theorem ddL_remove_2 : decode cL_remove 2 = .ok (.aload_n 0, 1) := by decide +kernel
theorem ddL_remove_3 : decode cL_remove 3 = .ok (.iload_n 1, 1) := by decide +kernel
theorem ddL_remove_4 : decode cL_remove 4 = .ok (.iload_n 2, 1) := by decide +kernel
theorem ddL_remove_5 : decode cL_remove 5 = .ok (.invokevirtual 41, 3) := by decide +kernel
theorem ddL_remove_8 : decode cL_remove 8 = .ok (.i2l, 1) := by decide +kernel
theorem ddL_remove_9 : decode cL_remove 9 = .ok (.lastore, 1) := by decide +kernel
theorem ddL_remove_10 : decode cL_remove 10 = .ok (.goto 15, 3) := by decide +kernel
theorem ddL_remove_13 : decode cL_remove 13 = .ok (.astore 4, 2) := by decide +kernel
theorem ddL_remove_15 : decode cL_remove 15 = .ok (.iconst 1, 1) := by decide +kernel
theorem ddL_remove_16 : decode cL_remove 16 = .ok (.ireturn, 1) := by decide +kernel
theorem ddL_remove_17 : decode cL_remove 17 = .ok (.astore 4, 2) := by decide +kernel
theorem ddL_remove_19 : decode cL_remove 19 = .ok (.iconst 2, 1) := by decide +kernel
theorem ddL_remove_20 : decode cL_remove 20 = .ok (.ireturn, 1) := by decide +kernel
theorem ddL_remove_21 : decode cL_remove 21 = .ok (.astore 4, 2) := by decide +kernel
theorem ddL_remove_23 : decode cL_remove 23 = .ok (.iconst 3, 1) := by decide +kernel
theorem ddL_remove_24 : decode cL_remove 24 = .ok (.ireturn, 1) := by decide +kernel
theorem ddL_remove_25 : decode cL_remove 25 = .ok (.iconst 0, 1) := by decide +kernel
theorem ddL_remove_26 : decode cL_remove 26 = .ok (.ireturn, 1) := by decide +kernel
theorem ddL_exchange_0 : decode cL_exchange 0 = .ok (.aload 5, 2) := by decide +kernel
theorem ddL_exchange_2 : decode cL_exchange 2 = .ok (.iconst 0, 1) := by decide +kernel
theorem ddL_exchange_3 : decode cL_exchange 3 = .ok (.aload_n 0, 1) := by decide +kernel
theorem ddL_exchange_4 : decode cL_exchange 4 = .ok (.iload_n 1, 1) := by decide +kernel
theorem ddL_exchange_5 : decode cL_exchange 5 = .ok (.iload_n 2, 1) := by decide +kernel
theorem ddL_exchange_6 : decode cL_exchange 6 = .ok (.iload_n 3, 1) := by decide +kernel
theorem ddL_exchange_7 : decode cL_exchange 7 = .ok (.iload 4, 2) := by decide +kernel
theorem ddL_exchange_9 : decode cL_exchange 9 = .ok (.invokevirtual 47, 3) := by decide +kernel
theorem ddL_exchange_12 : decode cL_exchange 12 = .ok (.i2l, 1) := by decide +kernel
theorem ddL_exchange_13 : decode cL_exchange 13 = .ok (.lastore, 1) := by decide +kernel
theorem ddL_exchange_14 : decode cL_exchange 14 = .ok (.goto 23, 3) := by decide +kernel
theorem ddL_exchange_17 : decode cL_exchange 17 = .ok (.astore 6, 2) := by decide +kernel
theorem ddL_exchange_19 : decode cL_exchange 19 = .ok (.iconst 1, 1) := by decide +kernel
theorem ddL_exchange_20 : decode cL_exchange 20 = .ok (.ireturn, 1) := by decide +kernel
theorem ddL_exchange_21 : decode cL_exchange 21 = .ok (.astore 6, 2) := by decide +kernel
theorem ddL_exchange_23 : decode cL_exchange 23 = .ok (.iconst 2, 1) := by decide +kernel
theorem ddL_exchange_24 : decode cL_exchange 24 = .ok (.ireturn, 1) := by decide +kernel
theorem ddL_exchange_25 : decode cL_exchange 25 = .ok (.astore 6, 2) := by decide +kernel
theorem ddL_exchange_27 : decode cL_exchange 27 = .ok (.iconst 3, 1) := by decide +kernel
theorem ddL_exchange_28 : decode cL_exchange 28 = .ok (.ireturn, 1) := by decide +kernel
theorem ddL_exchange_29 : decode cL_exchange 29 = .ok (.astore 6, 2) := by decide +kernel
theorem ddL_exchange_31 : decode cL_exchange 31 = .ok (.iconst 4, 1) := by decide +kernel
theorem ddL_exchange_32 : decode cL_exchange 32 = .ok (.ireturn, 1) := by decide +kernel
theorem ddL_exchange_33 : decode cL_exchange 33 = .ok (.astore 6, 2) := by decide +kernel
theorem ddL_exchange_35 : decode cL_exchange 35 = .ok (.iconst 5, 1) := by decide +kernel
theorem ddL_exchange_36 : decode cL_exchange 36 = .ok (.ireturn, 1) := by decide +kernel
theorem ddL_exchange_37 : decode cL_exchange 37 = .ok (.iconst 0, 1) := by decide +kernel
theorem ddL_exchange_38 : decode cL_exchange 38 = .ok (.ireturn, 1) := by decide +kernel
theorem ddL_fillSlot_0 : decode cL_fillSlot 0 = .ok (.aload_n 2, 1) := by decide +kernel
theorem ddL_fillSlot_1 : decode cL_fillSlot 1 = .ok (.iconst 0, 1) := by decide +kernel
theorem ddL_fillSlot_2 : decode cL_fillSlot 2 = .ok (.aload_n 0, 1) := by decide +kernel
theorem ddL_fillSlot_3 : decode cL_fillSlot 3 = .ok (.iload_n 1, 1) := by decide +kernel
theorem ddL_fillSlot_4 : decode cL_fillSlot 4 = .ok (.invokevirtual 51, 3) := by decide +kernel
theorem ddL_fillSlot_7 : decode cL_fillSlot 7 = .ok (.i2l, 1) := by decide +kernel
theorem ddL_fillSlot_8 : decode cL_fillSlot 8 = .ok (.lastore, 1) := by decide +kernel
theorem ddL_fillSlot_9 : decode cL_fillSlot 9 = .ok (.goto 9, 3) := by decide +kernel
theorem ddL_fillSlot_12 : decode cL_fillSlot 12 = .ok (.astore_n 3, 1) := by decide +kernel
theorem ddL_fillSlot_13 : decode cL_fillSlot 13 = .ok (.iconst 1, 1) := by decide +kernel
theorem ddL_fillSlot_14 : decode cL_fillSlot 14 = .ok (.ireturn, 1) := by decide +kernel
theorem ddL_fillSlot_15 : decode cL_fillSlot 15 = .ok (.astore_n 3, 1) := by decide +kernel
theorem ddL_fillSlot_16 : decode cL_fillSlot 16 = .ok (.iconst 2, 1) := by decide +kernel
theorem ddL_fillSlot_17 : decode cL_fillSlot 17 = .ok (.ireturn, 1) := by decide +kernel
theorem ddL_fillSlot_18 : decode cL_fillSlot 18 = .ok (.iconst 0, 1) := by decide +kernel
theorem ddL_fillSlot_19 : decode cL_fillSlot 19 = .ok (.ireturn, 1) := by decide +kernel
theorem ddL_guardAt_0 : decode cL_guardAt 0 = .ok (.aload_n 3, 1) := by decide +kernel
theorem ddL_guardAt_1 : decode cL_guardAt 1 = .ok (.iconst 0, 1) := by decide +kernel
theorem ddL_guardAt_2 : decode cL_guardAt 2 = .ok (.aload_n 0, 1) := by decide +kernel
theorem ddL_guardAt_3 : decode cL_guardAt 3 = .ok (.iload_n 1, 1) := by decide +kernel
theorem ddL_guardAt_4 : decode cL_guardAt 4 = .ok (.iload_n 2, 1) := by decide +kernel
theorem ddL_guardAt_5 : decode cL_guardAt 5 = .ok (.invokevirtual 54, 3) := by decide +kernel
theorem ddL_guardAt_8 : decode cL_guardAt 8 = .ok (.i2l, 1) := by decide +kernel
theorem ddL_guardAt_9 : decode cL_guardAt 9 = .ok (.lastore, 1) := by decide +kernel
theorem ddL_guardAt_10 : decode cL_guardAt 10 = .ok (.goto 11, 3) := by decide +kernel
theorem ddL_guardAt_13 : decode cL_guardAt 13 = .ok (.astore 4, 2) := by decide +kernel
theorem ddL_guardAt_15 : decode cL_guardAt 15 = .ok (.iconst 1, 1) := by decide +kernel
theorem ddL_guardAt_16 : decode cL_guardAt 16 = .ok (.ireturn, 1) := by decide +kernel
theorem ddL_guardAt_17 : decode cL_guardAt 17 = .ok (.astore 4, 2) := by decide +kernel
theorem ddL_guardAt_19 : decode cL_guardAt 19 = .ok (.iconst 2, 1) := by decide +kernel
theorem ddL_guardAt_20 : decode cL_guardAt 20 = .ok (.ireturn, 1) := by decide +kernel
theorem ddL_guardAt_21 : decode cL_guardAt 21 = .ok (.iconst 0, 1) := by decide +kernel
theorem ddL_guardAt_22 : decode cL_guardAt 22 = .ok (.ireturn, 1) := by decide +kernel
theorem ddL_gateOf_0 : decode cL_gateOf 0 = .ok (.aload_n 3, 1) := by decide +kernel
theorem ddL_gateOf_1 : decode cL_gateOf 1 = .ok (.iconst 0, 1) := by decide +kernel
theorem ddL_gateOf_2 : decode cL_gateOf 2 = .ok (.aload_n 0, 1) := by decide +kernel
theorem ddL_gateOf_3 : decode cL_gateOf 3 = .ok (.iload_n 1, 1) := by decide +kernel
theorem ddL_gateOf_4 : decode cL_gateOf 4 = .ok (.iload_n 2, 1) := by decide +kernel
theorem ddL_gateOf_5 : decode cL_gateOf 5 = .ok (.invokevirtual 57, 3) := by decide +kernel
theorem ddL_gateOf_8 : decode cL_gateOf 8 = .ok (.i2l, 1) := by decide +kernel
theorem ddL_gateOf_9 : decode cL_gateOf 9 = .ok (.lastore, 1) := by decide +kernel
theorem ddL_gateOf_10 : decode cL_gateOf 10 = .ok (.goto 11, 3) := by decide +kernel
theorem ddL_gateOf_13 : decode cL_gateOf 13 = .ok (.astore 4, 2) := by decide +kernel
theorem ddL_gateOf_15 : decode cL_gateOf 15 = .ok (.iconst 1, 1) := by decide +kernel
theorem ddL_gateOf_16 : decode cL_gateOf 16 = .ok (.ireturn, 1) := by decide +kernel
theorem ddL_gateOf_17 : decode cL_gateOf 17 = .ok (.astore 4, 2) := by decide +kernel
theorem ddL_gateOf_19 : decode cL_gateOf 19 = .ok (.iconst 2, 1) := by decide +kernel
theorem ddL_gateOf_20 : decode cL_gateOf 20 = .ok (.ireturn, 1) := by decide +kernel
theorem ddL_gateOf_21 : decode cL_gateOf 21 = .ok (.iconst 0, 1) := by decide +kernel
theorem ddL_gateOf_22 : decode cL_gateOf 22 = .ok (.ireturn, 1) := by decide +kernel
theorem ddL_dutiesOf_0 : decode cL_dutiesOf 0 = .ok (.aload_n 2, 1) := by decide +kernel
theorem ddL_dutiesOf_1 : decode cL_dutiesOf 1 = .ok (.iconst 0, 1) := by decide +kernel
theorem ddL_dutiesOf_2 : decode cL_dutiesOf 2 = .ok (.aload_n 0, 1) := by decide +kernel
theorem ddL_dutiesOf_3 : decode cL_dutiesOf 3 = .ok (.iload_n 1, 1) := by decide +kernel
theorem ddL_dutiesOf_4 : decode cL_dutiesOf 4 = .ok (.invokevirtual 60, 3) := by decide +kernel
theorem ddL_dutiesOf_7 : decode cL_dutiesOf 7 = .ok (.i2l, 1) := by decide +kernel
theorem ddL_dutiesOf_8 : decode cL_dutiesOf 8 = .ok (.lastore, 1) := by decide +kernel
theorem ddL_dutiesOf_9 : decode cL_dutiesOf 9 = .ok (.goto 6, 3) := by decide +kernel
theorem ddL_dutiesOf_12 : decode cL_dutiesOf 12 = .ok (.astore_n 3, 1) := by decide +kernel
theorem ddL_dutiesOf_13 : decode cL_dutiesOf 13 = .ok (.iconst 1, 1) := by decide +kernel
theorem ddL_dutiesOf_14 : decode cL_dutiesOf 14 = .ok (.ireturn, 1) := by decide +kernel
theorem ddL_dutiesOf_15 : decode cL_dutiesOf 15 = .ok (.iconst 0, 1) := by decide +kernel
theorem ddL_dutiesOf_16 : decode cL_dutiesOf 16 = .ok (.ireturn, 1) := by decide +kernel
theorem ddL_openGates_0 : decode cL_openGates 0 = .ok (.aload_n 2, 1) := by decide +kernel
theorem ddL_openGates_1 : decode cL_openGates 1 = .ok (.iconst 0, 1) := by decide +kernel
theorem ddL_openGates_2 : decode cL_openGates 2 = .ok (.aload_n 0, 1) := by decide +kernel
theorem ddL_openGates_3 : decode cL_openGates 3 = .ok (.iload_n 1, 1) := by decide +kernel
theorem ddL_openGates_4 : decode cL_openGates 4 = .ok (.invokevirtual 63, 3) := by decide +kernel
theorem ddL_openGates_7 : decode cL_openGates 7 = .ok (.i2l, 1) := by decide +kernel
theorem ddL_openGates_8 : decode cL_openGates 8 = .ok (.lastore, 1) := by decide +kernel
theorem ddL_openGates_9 : decode cL_openGates 9 = .ok (.goto 6, 3) := by decide +kernel
theorem ddL_openGates_12 : decode cL_openGates 12 = .ok (.astore_n 3, 1) := by decide +kernel
theorem ddL_openGates_13 : decode cL_openGates 13 = .ok (.iconst 1, 1) := by decide +kernel
theorem ddL_openGates_14 : decode cL_openGates 14 = .ok (.ireturn, 1) := by decide +kernel
theorem ddL_openGates_15 : decode cL_openGates 15 = .ok (.iconst 0, 1) := by decide +kernel
theorem ddL_openGates_16 : decode cL_openGates 16 = .ok (.ireturn, 1) := by decide +kernel
theorem ddL_mostDuties_0 : decode cL_mostDuties 0 = .ok (.aload_n 2, 1) := by decide +kernel
theorem ddL_mostDuties_1 : decode cL_mostDuties 1 = .ok (.iconst 0, 1) := by decide +kernel
theorem ddL_mostDuties_2 : decode cL_mostDuties 2 = .ok (.aload_n 0, 1) := by decide +kernel
theorem ddL_mostDuties_3 : decode cL_mostDuties 3 = .ok (.iload_n 1, 1) := by decide +kernel
theorem ddL_mostDuties_4 : decode cL_mostDuties 4 = .ok (.invokevirtual 66, 3) := by decide +kernel
theorem ddL_mostDuties_7 : decode cL_mostDuties 7 = .ok (.i2l, 1) := by decide +kernel
theorem ddL_mostDuties_8 : decode cL_mostDuties 8 = .ok (.lastore, 1) := by decide +kernel
theorem ddL_mostDuties_9 : decode cL_mostDuties 9 = .ok (.goto 6, 3) := by decide +kernel
theorem ddL_mostDuties_12 : decode cL_mostDuties 12 = .ok (.astore_n 3, 1) := by decide +kernel
theorem ddL_mostDuties_13 : decode cL_mostDuties 13 = .ok (.iconst 1, 1) := by decide +kernel
theorem ddL_mostDuties_14 : decode cL_mostDuties 14 = .ok (.ireturn, 1) := by decide +kernel
theorem ddL_mostDuties_15 : decode cL_mostDuties 15 = .ok (.iconst 0, 1) := by decide +kernel
theorem ddL_mostDuties_16 : decode cL_mostDuties 16 = .ok (.ireturn, 1) := by decide +kernel
theorem ddL_mostDutiesBySets_0 : decode cL_mostDutiesBySets 0 = .ok (.aload_n 2, 1) := by decide +kernel
theorem ddL_mostDutiesBySets_1 : decode cL_mostDutiesBySets 1 = .ok (.iconst 0, 1) := by decide +kernel
theorem ddL_mostDutiesBySets_2 : decode cL_mostDutiesBySets 2 = .ok (.aload_n 0, 1) := by decide +kernel
theorem ddL_mostDutiesBySets_3 : decode cL_mostDutiesBySets 3 = .ok (.iload_n 1, 1) := by decide +kernel
theorem ddL_mostDutiesBySets_4 : decode cL_mostDutiesBySets 4 = .ok (.invokevirtual 69, 3) := by decide +kernel
theorem ddL_mostDutiesBySets_7 : decode cL_mostDutiesBySets 7 = .ok (.i2l, 1) := by decide +kernel
theorem ddL_mostDutiesBySets_8 : decode cL_mostDutiesBySets 8 = .ok (.lastore, 1) := by decide +kernel
theorem ddL_mostDutiesBySets_9 : decode cL_mostDutiesBySets 9 = .ok (.goto 6, 3) := by decide +kernel
theorem ddL_mostDutiesBySets_12 : decode cL_mostDutiesBySets 12 = .ok (.astore_n 3, 1) := by decide +kernel
theorem ddL_mostDutiesBySets_13 : decode cL_mostDutiesBySets 13 = .ok (.iconst 1, 1) := by decide +kernel
theorem ddL_mostDutiesBySets_14 : decode cL_mostDutiesBySets 14 = .ok (.ireturn, 1) := by decide +kernel
theorem ddL_mostDutiesBySets_15 : decode cL_mostDutiesBySets 15 = .ok (.iconst 0, 1) := by decide +kernel
theorem ddL_mostDutiesBySets_16 : decode cL_mostDutiesBySets 16 = .ok (.ireturn, 1) := by decide +kernel
theorem ddL_nextDuty_0 : decode cL_nextDuty 0 = .ok (.aload_n 2, 1) := by decide +kernel
theorem ddL_nextDuty_1 : decode cL_nextDuty 1 = .ok (.iconst 0, 1) := by decide +kernel
theorem ddL_nextDuty_2 : decode cL_nextDuty 2 = .ok (.aload_n 0, 1) := by decide +kernel
theorem ddL_nextDuty_3 : decode cL_nextDuty 3 = .ok (.iload_n 1, 1) := by decide +kernel
theorem ddL_nextDuty_4 : decode cL_nextDuty 4 = .ok (.invokevirtual 72, 3) := by decide +kernel
theorem ddL_nextDuty_7 : decode cL_nextDuty 7 = .ok (.i2l, 1) := by decide +kernel
theorem ddL_nextDuty_8 : decode cL_nextDuty 8 = .ok (.lastore, 1) := by decide +kernel
theorem ddL_nextDuty_9 : decode cL_nextDuty 9 = .ok (.goto 9, 3) := by decide +kernel
theorem ddL_nextDuty_12 : decode cL_nextDuty 12 = .ok (.astore_n 3, 1) := by decide +kernel
theorem ddL_nextDuty_13 : decode cL_nextDuty 13 = .ok (.iconst 1, 1) := by decide +kernel
theorem ddL_nextDuty_14 : decode cL_nextDuty 14 = .ok (.ireturn, 1) := by decide +kernel
theorem ddL_nextDuty_15 : decode cL_nextDuty 15 = .ok (.astore_n 3, 1) := by decide +kernel
theorem ddL_nextDuty_16 : decode cL_nextDuty 16 = .ok (.iconst 2, 1) := by decide +kernel
theorem ddL_nextDuty_17 : decode cL_nextDuty 17 = .ok (.ireturn, 1) := by decide +kernel
theorem ddL_nextDuty_18 : decode cL_nextDuty 18 = .ok (.iconst 0, 1) := by decide +kernel
theorem ddL_nextDuty_19 : decode cL_nextDuty 19 = .ok (.ireturn, 1) := by decide +kernel
theorem ddL_longestRest_0 : decode cL_longestRest 0 = .ok (.aload_n 2, 1) := by decide +kernel
theorem ddL_longestRest_1 : decode cL_longestRest 1 = .ok (.iconst 0, 1) := by decide +kernel
theorem ddL_longestRest_2 : decode cL_longestRest 2 = .ok (.aload_n 0, 1) := by decide +kernel
theorem ddL_longestRest_3 : decode cL_longestRest 3 = .ok (.iload_n 1, 1) := by decide +kernel
theorem ddL_longestRest_4 : decode cL_longestRest 4 = .ok (.invokevirtual 75, 3) := by decide +kernel
theorem ddL_longestRest_7 : decode cL_longestRest 7 = .ok (.i2l, 1) := by decide +kernel
theorem ddL_longestRest_8 : decode cL_longestRest 8 = .ok (.lastore, 1) := by decide +kernel
theorem ddL_longestRest_9 : decode cL_longestRest 9 = .ok (.goto 6, 3) := by decide +kernel
theorem ddL_longestRest_12 : decode cL_longestRest 12 = .ok (.astore_n 3, 1) := by decide +kernel
theorem ddL_longestRest_13 : decode cL_longestRest 13 = .ok (.iconst 1, 1) := by decide +kernel
theorem ddL_longestRest_14 : decode cL_longestRest 14 = .ok (.ireturn, 1) := by decide +kernel
theorem ddL_longestRest_15 : decode cL_longestRest 15 = .ok (.iconst 0, 1) := by decide +kernel
theorem ddL_longestRest_16 : decode cL_longestRest 16 = .ok (.ireturn, 1) := by decide +kernel
theorem ddL_guardByDuties_0 : decode cL_guardByDuties 0 = .ok (.aload_n 2, 1) := by decide +kernel
theorem ddL_guardByDuties_1 : decode cL_guardByDuties 1 = .ok (.iconst 0, 1) := by decide +kernel
theorem ddL_guardByDuties_2 : decode cL_guardByDuties 2 = .ok (.aload_n 0, 1) := by decide +kernel
theorem ddL_guardByDuties_3 : decode cL_guardByDuties 3 = .ok (.iload_n 1, 1) := by decide +kernel
theorem ddL_guardByDuties_4 : decode cL_guardByDuties 4 = .ok (.invokevirtual 78, 3) := by decide +kernel
theorem ddL_guardByDuties_7 : decode cL_guardByDuties 7 = .ok (.i2l, 1) := by decide +kernel
theorem ddL_guardByDuties_8 : decode cL_guardByDuties 8 = .ok (.lastore, 1) := by decide +kernel
theorem ddL_guardByDuties_9 : decode cL_guardByDuties 9 = .ok (.goto 6, 3) := by decide +kernel
theorem ddL_guardByDuties_12 : decode cL_guardByDuties 12 = .ok (.astore_n 3, 1) := by decide +kernel
theorem ddL_guardByDuties_13 : decode cL_guardByDuties 13 = .ok (.iconst 1, 1) := by decide +kernel
theorem ddL_guardByDuties_14 : decode cL_guardByDuties 14 = .ok (.ireturn, 1) := by decide +kernel
theorem ddL_guardByDuties_15 : decode cL_guardByDuties 15 = .ok (.iconst 0, 1) := by decide +kernel
theorem ddL_guardByDuties_16 : decode cL_guardByDuties 16 = .ok (.ireturn, 1) := by decide +kernel
theorem ddL_grantLeave_0 : decode cL_grantLeave 0 = .ok (.aload 4, 2) := by decide +kernel
theorem ddL_grantLeave_2 : decode cL_grantLeave 2 = .ok (.iconst 0, 1) := by decide +kernel
theorem ddL_grantLeave_3 : decode cL_grantLeave 3 = .ok (.aload_n 0, 1) := by decide +kernel
theorem ddL_grantLeave_4 : decode cL_grantLeave 4 = .ok (.iload_n 1, 1) := by decide +kernel
theorem ddL_grantLeave_5 : decode cL_grantLeave 5 = .ok (.iload_n 2, 1) := by decide +kernel
theorem ddL_grantLeave_6 : decode cL_grantLeave 6 = .ok (.iload_n 3, 1) := by decide +kernel
theorem ddL_grantLeave_7 : decode cL_grantLeave 7 = .ok (.invokevirtual 81, 3) := by decide +kernel
theorem ddL_grantLeave_10 : decode cL_grantLeave 10 = .ok (.i2l, 1) := by decide +kernel
theorem ddL_grantLeave_11 : decode cL_grantLeave 11 = .ok (.lastore, 1) := by decide +kernel
theorem ddL_grantLeave_12 : decode cL_grantLeave 12 = .ok (.goto 19, 3) := by decide +kernel
theorem ddL_grantLeave_15 : decode cL_grantLeave 15 = .ok (.astore 5, 2) := by decide +kernel
theorem ddL_grantLeave_17 : decode cL_grantLeave 17 = .ok (.iconst 1, 1) := by decide +kernel
theorem ddL_grantLeave_18 : decode cL_grantLeave 18 = .ok (.ireturn, 1) := by decide +kernel
theorem ddL_grantLeave_19 : decode cL_grantLeave 19 = .ok (.astore 5, 2) := by decide +kernel
theorem ddL_grantLeave_21 : decode cL_grantLeave 21 = .ok (.iconst 2, 1) := by decide +kernel
theorem ddL_grantLeave_22 : decode cL_grantLeave 22 = .ok (.ireturn, 1) := by decide +kernel
theorem ddL_grantLeave_23 : decode cL_grantLeave 23 = .ok (.astore 5, 2) := by decide +kernel
theorem ddL_grantLeave_25 : decode cL_grantLeave 25 = .ok (.iconst 3, 1) := by decide +kernel
theorem ddL_grantLeave_26 : decode cL_grantLeave 26 = .ok (.ireturn, 1) := by decide +kernel
theorem ddL_grantLeave_27 : decode cL_grantLeave 27 = .ok (.astore 5, 2) := by decide +kernel
theorem ddL_grantLeave_29 : decode cL_grantLeave 29 = .ok (.iconst 4, 1) := by decide +kernel
theorem ddL_grantLeave_30 : decode cL_grantLeave 30 = .ok (.ireturn, 1) := by decide +kernel
theorem ddL_grantLeave_31 : decode cL_grantLeave 31 = .ok (.iconst 0, 1) := by decide +kernel
theorem ddL_grantLeave_32 : decode cL_grantLeave 32 = .ok (.ireturn, 1) := by decide +kernel
theorem ddL_endLeave_0 : decode cL_endLeave 0 = .ok (.aload_n 3, 1) := by decide +kernel
theorem ddL_endLeave_1 : decode cL_endLeave 1 = .ok (.iconst 0, 1) := by decide +kernel
theorem ddL_endLeave_2 : decode cL_endLeave 2 = .ok (.aload_n 0, 1) := by decide +kernel
theorem ddL_endLeave_3 : decode cL_endLeave 3 = .ok (.iload_n 1, 1) := by decide +kernel
theorem ddL_endLeave_4 : decode cL_endLeave 4 = .ok (.iload_n 2, 1) := by decide +kernel
theorem ddL_endLeave_5 : decode cL_endLeave 5 = .ok (.invokevirtual 84, 3) := by decide +kernel
theorem ddL_endLeave_8 : decode cL_endLeave 8 = .ok (.i2l, 1) := by decide +kernel
theorem ddL_endLeave_9 : decode cL_endLeave 9 = .ok (.lastore, 1) := by decide +kernel
theorem ddL_endLeave_10 : decode cL_endLeave 10 = .ok (.goto 11, 3) := by decide +kernel
theorem ddL_endLeave_13 : decode cL_endLeave 13 = .ok (.astore 4, 2) := by decide +kernel
theorem ddL_endLeave_15 : decode cL_endLeave 15 = .ok (.iconst 1, 1) := by decide +kernel
theorem ddL_endLeave_16 : decode cL_endLeave 16 = .ok (.ireturn, 1) := by decide +kernel
theorem ddL_endLeave_17 : decode cL_endLeave 17 = .ok (.astore 4, 2) := by decide +kernel
theorem ddL_endLeave_19 : decode cL_endLeave 19 = .ok (.iconst 2, 1) := by decide +kernel
theorem ddL_endLeave_20 : decode cL_endLeave 20 = .ok (.ireturn, 1) := by decide +kernel
theorem ddL_endLeave_21 : decode cL_endLeave 21 = .ok (.iconst 0, 1) := by decide +kernel
theorem ddL_endLeave_22 : decode cL_endLeave 22 = .ok (.ireturn, 1) := by decide +kernel
theorem ddL_isOnLeave_0 : decode cL_isOnLeave 0 = .ok (.aload_n 3, 1) := by decide +kernel
theorem ddL_isOnLeave_1 : decode cL_isOnLeave 1 = .ok (.iconst 0, 1) := by decide +kernel
theorem ddL_isOnLeave_2 : decode cL_isOnLeave 2 = .ok (.aload_n 0, 1) := by decide +kernel
theorem ddL_isOnLeave_3 : decode cL_isOnLeave 3 = .ok (.iload_n 1, 1) := by decide +kernel
theorem ddL_isOnLeave_4 : decode cL_isOnLeave 4 = .ok (.iload_n 2, 1) := by decide +kernel
theorem ddL_isOnLeave_5 : decode cL_isOnLeave 5 = .ok (.invokevirtual 87, 3) := by decide +kernel
theorem ddL_isOnLeave_8 : decode cL_isOnLeave 8 = .ok (.ifCond .eq 7, 3) := by decide +kernel
theorem ddL_isOnLeave_11 : decode cL_isOnLeave 11 = .ok (.lconst 1, 1) := by decide +kernel
theorem ddL_isOnLeave_12 : decode cL_isOnLeave 12 = .ok (.goto 4, 3) := by decide +kernel
theorem ddL_isOnLeave_15 : decode cL_isOnLeave 15 = .ok (.lconst 0, 1) := by decide +kernel
theorem ddL_isOnLeave_16 : decode cL_isOnLeave 16 = .ok (.lastore, 1) := by decide +kernel
theorem ddL_isOnLeave_17 : decode cL_isOnLeave 17 = .ok (.goto 7, 3) := by decide +kernel
theorem ddL_isOnLeave_20 : decode cL_isOnLeave 20 = .ok (.astore 4, 2) := by decide +kernel
theorem ddL_isOnLeave_22 : decode cL_isOnLeave 22 = .ok (.iconst 1, 1) := by decide +kernel
theorem ddL_isOnLeave_23 : decode cL_isOnLeave 23 = .ok (.ireturn, 1) := by decide +kernel
theorem ddL_isOnLeave_24 : decode cL_isOnLeave 24 = .ok (.iconst 0, 1) := by decide +kernel
theorem ddL_isOnLeave_25 : decode cL_isOnLeave 25 = .ok (.ireturn, 1) := by decide +kernel
theorem ddL_leaveSlots_0 : decode cL_leaveSlots 0 = .ok (.aload_n 2, 1) := by decide +kernel
theorem ddL_leaveSlots_1 : decode cL_leaveSlots 1 = .ok (.iconst 0, 1) := by decide +kernel
theorem ddL_leaveSlots_2 : decode cL_leaveSlots 2 = .ok (.aload_n 0, 1) := by decide +kernel
theorem ddL_leaveSlots_3 : decode cL_leaveSlots 3 = .ok (.iload_n 1, 1) := by decide +kernel
theorem ddL_leaveSlots_4 : decode cL_leaveSlots 4 = .ok (.invokevirtual 91, 3) := by decide +kernel
theorem ddL_leaveSlots_7 : decode cL_leaveSlots 7 = .ok (.i2l, 1) := by decide +kernel
theorem ddL_leaveSlots_8 : decode cL_leaveSlots 8 = .ok (.lastore, 1) := by decide +kernel
theorem ddL_leaveSlots_9 : decode cL_leaveSlots 9 = .ok (.goto 6, 3) := by decide +kernel
theorem ddL_leaveSlots_12 : decode cL_leaveSlots 12 = .ok (.astore_n 3, 1) := by decide +kernel
theorem ddL_leaveSlots_13 : decode cL_leaveSlots 13 = .ok (.iconst 1, 1) := by decide +kernel
theorem ddL_leaveSlots_14 : decode cL_leaveSlots 14 = .ok (.ireturn, 1) := by decide +kernel
theorem ddL_leaveSlots_15 : decode cL_leaveSlots 15 = .ok (.iconst 0, 1) := by decide +kernel
theorem ddL_leaveSlots_16 : decode cL_leaveSlots 16 = .ok (.ireturn, 1) := by decide +kernel
theorem ddL_addRations_0 : decode cL_addRations 0 = .ok (.aload_n 2, 1) := by decide +kernel
theorem ddL_addRations_1 : decode cL_addRations 1 = .ok (.iconst 0, 1) := by decide +kernel
theorem ddL_addRations_2 : decode cL_addRations 2 = .ok (.aload_n 0, 1) := by decide +kernel
theorem ddL_addRations_3 : decode cL_addRations 3 = .ok (.iload_n 1, 1) := by decide +kernel
theorem ddL_addRations_4 : decode cL_addRations 4 = .ok (.invokevirtual 94, 3) := by decide +kernel
theorem ddL_addRations_7 : decode cL_addRations 7 = .ok (.i2l, 1) := by decide +kernel
theorem ddL_addRations_8 : decode cL_addRations 8 = .ok (.lastore, 1) := by decide +kernel
theorem ddL_addRations_9 : decode cL_addRations 9 = .ok (.goto 9, 3) := by decide +kernel
theorem ddL_addRations_12 : decode cL_addRations 12 = .ok (.astore_n 3, 1) := by decide +kernel
theorem ddL_addRations_13 : decode cL_addRations 13 = .ok (.iconst 1, 1) := by decide +kernel
theorem ddL_addRations_14 : decode cL_addRations 14 = .ok (.ireturn, 1) := by decide +kernel
theorem ddL_addRations_15 : decode cL_addRations 15 = .ok (.astore_n 3, 1) := by decide +kernel
theorem ddL_addRations_16 : decode cL_addRations 16 = .ok (.iconst 2, 1) := by decide +kernel
theorem ddL_addRations_17 : decode cL_addRations 17 = .ok (.ireturn, 1) := by decide +kernel
theorem ddL_addRations_18 : decode cL_addRations 18 = .ok (.iconst 0, 1) := by decide +kernel
theorem ddL_addRations_19 : decode cL_addRations 19 = .ok (.ireturn, 1) := by decide +kernel
theorem ddL_passSlots_0 : decode cL_passSlots 0 = .ok (.aload_n 2, 1) := by decide +kernel
theorem ddL_passSlots_1 : decode cL_passSlots 1 = .ok (.iconst 0, 1) := by decide +kernel
theorem ddL_passSlots_2 : decode cL_passSlots 2 = .ok (.aload_n 0, 1) := by decide +kernel
theorem ddL_passSlots_3 : decode cL_passSlots 3 = .ok (.iload_n 1, 1) := by decide +kernel
theorem ddL_passSlots_4 : decode cL_passSlots 4 = .ok (.invokevirtual 97, 3) := by decide +kernel
theorem ddL_passSlots_7 : decode cL_passSlots 7 = .ok (.i2l, 1) := by decide +kernel
theorem ddL_passSlots_8 : decode cL_passSlots 8 = .ok (.lastore, 1) := by decide +kernel
theorem ddL_passSlots_9 : decode cL_passSlots 9 = .ok (.goto 9, 3) := by decide +kernel
theorem ddL_passSlots_12 : decode cL_passSlots 12 = .ok (.astore_n 3, 1) := by decide +kernel
theorem ddL_passSlots_13 : decode cL_passSlots 13 = .ok (.iconst 1, 1) := by decide +kernel
theorem ddL_passSlots_14 : decode cL_passSlots 14 = .ok (.ireturn, 1) := by decide +kernel
theorem ddL_passSlots_15 : decode cL_passSlots 15 = .ok (.astore_n 3, 1) := by decide +kernel
theorem ddL_passSlots_16 : decode cL_passSlots 16 = .ok (.iconst 2, 1) := by decide +kernel
theorem ddL_passSlots_17 : decode cL_passSlots 17 = .ok (.ireturn, 1) := by decide +kernel
theorem ddL_passSlots_18 : decode cL_passSlots 18 = .ok (.iconst 0, 1) := by decide +kernel
theorem ddL_passSlots_19 : decode cL_passSlots 19 = .ok (.ireturn, 1) := by decide +kernel
theorem ddL_refusalReason_0 : decode cL_refusalReason 0 = .ok (.aload_n 1, 1) := by decide +kernel
theorem ddL_refusalReason_1 : decode cL_refusalReason 1 = .ok (.iconst 0, 1) := by decide +kernel
theorem ddL_refusalReason_2 : decode cL_refusalReason 2 = .ok (.aload_n 0, 1) := by decide +kernel
theorem ddL_refusalReason_3 : decode cL_refusalReason 3 = .ok (.invokevirtual 100, 3) := by decide +kernel
theorem ddL_refusalReason_6 : decode cL_refusalReason 6 = .ok (.i2l, 1) := by decide +kernel
theorem ddL_refusalReason_7 : decode cL_refusalReason 7 = .ok (.lastore, 1) := by decide +kernel
theorem ddL_refusalReason_8 : decode cL_refusalReason 8 = .ok (.goto 6, 3) := by decide +kernel
theorem ddL_refusalReason_11 : decode cL_refusalReason 11 = .ok (.astore_n 2, 1) := by decide +kernel
theorem ddL_refusalReason_12 : decode cL_refusalReason 12 = .ok (.iconst 1, 1) := by decide +kernel
theorem ddL_refusalReason_13 : decode cL_refusalReason 13 = .ok (.ireturn, 1) := by decide +kernel
theorem ddL_refusalReason_14 : decode cL_refusalReason 14 = .ok (.iconst 0, 1) := by decide +kernel
theorem ddL_refusalReason_15 : decode cL_refusalReason 15 = .ok (.ireturn, 1) := by decide +kernel
theorem ddL_refusalDetail_0 : decode cL_refusalDetail 0 = .ok (.aload_n 1, 1) := by decide +kernel
theorem ddL_refusalDetail_1 : decode cL_refusalDetail 1 = .ok (.iconst 0, 1) := by decide +kernel
theorem ddL_refusalDetail_2 : decode cL_refusalDetail 2 = .ok (.aload_n 0, 1) := by decide +kernel
theorem ddL_refusalDetail_3 : decode cL_refusalDetail 3 = .ok (.invokevirtual 104, 3) := by decide +kernel
theorem ddL_refusalDetail_6 : decode cL_refusalDetail 6 = .ok (.i2l, 1) := by decide +kernel
theorem ddL_refusalDetail_7 : decode cL_refusalDetail 7 = .ok (.lastore, 1) := by decide +kernel
theorem ddL_refusalDetail_8 : decode cL_refusalDetail 8 = .ok (.goto 6, 3) := by decide +kernel
theorem ddL_refusalDetail_11 : decode cL_refusalDetail 11 = .ok (.astore_n 2, 1) := by decide +kernel
theorem ddL_refusalDetail_12 : decode cL_refusalDetail 12 = .ok (.iconst 1, 1) := by decide +kernel
theorem ddL_refusalDetail_13 : decode cL_refusalDetail 13 = .ok (.ireturn, 1) := by decide +kernel
theorem ddL_refusalDetail_14 : decode cL_refusalDetail 14 = .ok (.iconst 0, 1) := by decide +kernel
theorem ddL_refusalDetail_15 : decode cL_refusalDetail 15 = .ok (.ireturn, 1) := by decide +kernel
theorem ddL_meanDuties_0 : decode cL_meanDuties 0 = .ok (.aload_n 1, 1) := by decide +kernel
theorem ddL_meanDuties_1 : decode cL_meanDuties 1 = .ok (.iconst 0, 1) := by decide +kernel
theorem ddL_meanDuties_2 : decode cL_meanDuties 2 = .ok (.aload_n 0, 1) := by decide +kernel
theorem ddL_meanDuties_3 : decode cL_meanDuties 3 = .ok (.invokevirtual 107, 3) := by decide +kernel
theorem ddL_meanDuties_6 : decode cL_meanDuties 6 = .ok (.dastore, 1) := by decide +kernel
theorem ddL_meanDuties_7 : decode cL_meanDuties 7 = .ok (.goto 6, 3) := by decide +kernel
theorem ddL_meanDuties_10 : decode cL_meanDuties 10 = .ok (.astore_n 2, 1) := by decide +kernel
theorem ddL_meanDuties_11 : decode cL_meanDuties 11 = .ok (.iconst 1, 1) := by decide +kernel
theorem ddL_meanDuties_12 : decode cL_meanDuties 12 = .ok (.ireturn, 1) := by decide +kernel
theorem ddL_meanDuties_13 : decode cL_meanDuties 13 = .ok (.iconst 0, 1) := by decide +kernel
theorem ddL_meanDuties_14 : decode cL_meanDuties 14 = .ok (.ireturn, 1) := by decide +kernel
theorem ddL_coveredFraction_0 : decode cL_coveredFraction 0 = .ok (.aload_n 1, 1) := by decide +kernel
theorem ddL_coveredFraction_1 : decode cL_coveredFraction 1 = .ok (.iconst 0, 1) := by decide +kernel
theorem ddL_coveredFraction_2 : decode cL_coveredFraction 2 = .ok (.aload_n 0, 1) := by decide +kernel
theorem ddL_coveredFraction_3 : decode cL_coveredFraction 3 = .ok (.invokevirtual 113, 3) := by decide +kernel
theorem ddL_coveredFraction_6 : decode cL_coveredFraction 6 = .ok (.f2d, 1) := by decide +kernel
theorem ddL_coveredFraction_7 : decode cL_coveredFraction 7 = .ok (.dastore, 1) := by decide +kernel
theorem ddL_coveredFraction_8 : decode cL_coveredFraction 8 = .ok (.goto 6, 3) := by decide +kernel
theorem ddL_coveredFraction_11 : decode cL_coveredFraction 11 = .ok (.astore_n 2, 1) := by decide +kernel
theorem ddL_coveredFraction_12 : decode cL_coveredFraction 12 = .ok (.iconst 1, 1) := by decide +kernel
theorem ddL_coveredFraction_13 : decode cL_coveredFraction 13 = .ok (.ireturn, 1) := by decide +kernel
theorem ddL_coveredFraction_14 : decode cL_coveredFraction 14 = .ok (.iconst 0, 1) := by decide +kernel
theorem ddL_coveredFraction_15 : decode cL_coveredFraction 15 = .ok (.ireturn, 1) := by decide +kernel
theorem ddL_writeSlot_0 : decode cL_writeSlot 0 = .ok (.aload_n 2, 1) := by decide +kernel
theorem ddL_writeSlot_1 : decode cL_writeSlot 1 = .ok (.iconst 0, 1) := by decide +kernel
theorem ddL_writeSlot_2 : decode cL_writeSlot 2 = .ok (.aload_n 0, 1) := by decide +kernel
theorem ddL_writeSlot_3 : decode cL_writeSlot 3 = .ok (.iload_n 1, 1) := by decide +kernel
theorem ddL_writeSlot_4 : decode cL_writeSlot 4 = .ok (.invokevirtual 117, 3) := by decide +kernel
theorem ddL_writeSlot_7 : decode cL_writeSlot 7 = .ok (.i2l, 1) := by decide +kernel
theorem ddL_writeSlot_8 : decode cL_writeSlot 8 = .ok (.lastore, 1) := by decide +kernel
theorem ddL_writeSlot_9 : decode cL_writeSlot 9 = .ok (.goto 6, 3) := by decide +kernel
theorem ddL_writeSlot_12 : decode cL_writeSlot 12 = .ok (.astore_n 3, 1) := by decide +kernel
theorem ddL_writeSlot_13 : decode cL_writeSlot 13 = .ok (.iconst 1, 1) := by decide +kernel
theorem ddL_writeSlot_14 : decode cL_writeSlot 14 = .ok (.ireturn, 1) := by decide +kernel
theorem ddL_writeSlot_15 : decode cL_writeSlot 15 = .ok (.iconst 0, 1) := by decide +kernel
theorem ddL_writeSlot_16 : decode cL_writeSlot 16 = .ok (.ireturn, 1) := by decide +kernel
theorem ddL_writeGuard_0 : decode cL_writeGuard 0 = .ok (.aload_n 2, 1) := by decide +kernel
theorem ddL_writeGuard_1 : decode cL_writeGuard 1 = .ok (.iconst 0, 1) := by decide +kernel
theorem ddL_writeGuard_2 : decode cL_writeGuard 2 = .ok (.aload_n 0, 1) := by decide +kernel
theorem ddL_writeGuard_3 : decode cL_writeGuard 3 = .ok (.iload_n 1, 1) := by decide +kernel
theorem ddL_writeGuard_4 : decode cL_writeGuard 4 = .ok (.invokevirtual 120, 3) := by decide +kernel
theorem ddL_writeGuard_7 : decode cL_writeGuard 7 = .ok (.i2l, 1) := by decide +kernel
theorem ddL_writeGuard_8 : decode cL_writeGuard 8 = .ok (.lastore, 1) := by decide +kernel
theorem ddL_writeGuard_9 : decode cL_writeGuard 9 = .ok (.goto 6, 3) := by decide +kernel
theorem ddL_writeGuard_12 : decode cL_writeGuard 12 = .ok (.astore_n 3, 1) := by decide +kernel
theorem ddL_writeGuard_13 : decode cL_writeGuard 13 = .ok (.iconst 1, 1) := by decide +kernel
theorem ddL_writeGuard_14 : decode cL_writeGuard 14 = .ok (.ireturn, 1) := by decide +kernel
theorem ddL_writeGuard_15 : decode cL_writeGuard 15 = .ok (.iconst 0, 1) := by decide +kernel
theorem ddL_writeGuard_16 : decode cL_writeGuard 16 = .ok (.ireturn, 1) := by decide +kernel
theorem ddL_outputCharacter_0 : decode cL_outputCharacter 0 = .ok (.aload_n 2, 1) := by decide +kernel
theorem ddL_outputCharacter_1 : decode cL_outputCharacter 1 = .ok (.iconst 0, 1) := by decide +kernel
theorem ddL_outputCharacter_2 : decode cL_outputCharacter 2 = .ok (.aload_n 0, 1) := by decide +kernel
theorem ddL_outputCharacter_3 : decode cL_outputCharacter 3 = .ok (.iload_n 1, 1) := by decide +kernel
theorem ddL_outputCharacter_4 : decode cL_outputCharacter 4 = .ok (.invokevirtual 123, 3) := by decide +kernel
theorem ddL_outputCharacter_7 : decode cL_outputCharacter 7 = .ok (.i2l, 1) := by decide +kernel
theorem ddL_outputCharacter_8 : decode cL_outputCharacter 8 = .ok (.lastore, 1) := by decide +kernel
theorem ddL_outputCharacter_9 : decode cL_outputCharacter 9 = .ok (.goto 6, 3) := by decide +kernel
theorem ddL_outputCharacter_12 : decode cL_outputCharacter 12 = .ok (.astore_n 3, 1) := by decide +kernel
theorem ddL_outputCharacter_13 : decode cL_outputCharacter 13 = .ok (.iconst 1, 1) := by decide +kernel
theorem ddL_outputCharacter_14 : decode cL_outputCharacter 14 = .ok (.ireturn, 1) := by decide +kernel
theorem ddL_outputCharacter_15 : decode cL_outputCharacter 15 = .ok (.iconst 0, 1) := by decide +kernel
theorem ddL_outputCharacter_16 : decode cL_outputCharacter 16 = .ok (.ireturn, 1) := by decide +kernel
theorem ddL_feed_0 : decode cL_feed 0 = .ok (.aload_n 2, 1) := by decide +kernel
theorem ddL_feed_1 : decode cL_feed 1 = .ok (.iconst 0, 1) := by decide +kernel
theorem ddL_feed_2 : decode cL_feed 2 = .ok (.aload_n 0, 1) := by decide +kernel
theorem ddL_feed_3 : decode cL_feed 3 = .ok (.iload_n 1, 1) := by decide +kernel
theorem ddL_feed_4 : decode cL_feed 4 = .ok (.invokevirtual 127, 3) := by decide +kernel
theorem ddL_feed_7 : decode cL_feed 7 = .ok (.i2l, 1) := by decide +kernel
theorem ddL_feed_8 : decode cL_feed 8 = .ok (.lastore, 1) := by decide +kernel
theorem ddL_feed_9 : decode cL_feed 9 = .ok (.goto 6, 3) := by decide +kernel
theorem ddL_feed_12 : decode cL_feed 12 = .ok (.astore_n 3, 1) := by decide +kernel
theorem ddL_feed_13 : decode cL_feed 13 = .ok (.iconst 1, 1) := by decide +kernel
theorem ddL_feed_14 : decode cL_feed 14 = .ok (.ireturn, 1) := by decide +kernel
theorem ddL_feed_15 : decode cL_feed 15 = .ok (.iconst 0, 1) := by decide +kernel
theorem ddL_feed_16 : decode cL_feed 16 = .ok (.ireturn, 1) := by decide +kernel
theorem ddL_execute_0 : decode cL_execute 0 = .ok (.aload_n 1, 1) := by decide +kernel
theorem ddL_execute_1 : decode cL_execute 1 = .ok (.iconst 0, 1) := by decide +kernel
theorem ddL_execute_2 : decode cL_execute 2 = .ok (.aload_n 0, 1) := by decide +kernel
theorem ddL_execute_3 : decode cL_execute 3 = .ok (.invokevirtual 131, 3) := by decide +kernel
theorem ddL_execute_6 : decode cL_execute 6 = .ok (.i2l, 1) := by decide +kernel
theorem ddL_execute_7 : decode cL_execute 7 = .ok (.lastore, 1) := by decide +kernel
theorem ddL_execute_8 : decode cL_execute 8 = .ok (.goto 9, 3) := by decide +kernel
theorem ddL_execute_11 : decode cL_execute 11 = .ok (.astore_n 2, 1) := by decide +kernel
theorem ddL_execute_12 : decode cL_execute 12 = .ok (.iconst 1, 1) := by decide +kernel
theorem ddL_execute_13 : decode cL_execute 13 = .ok (.ireturn, 1) := by decide +kernel
theorem ddL_execute_14 : decode cL_execute 14 = .ok (.astore_n 2, 1) := by decide +kernel
theorem ddL_execute_15 : decode cL_execute 15 = .ok (.iconst 2, 1) := by decide +kernel
theorem ddL_execute_16 : decode cL_execute 16 = .ok (.ireturn, 1) := by decide +kernel
theorem ddL_execute_17 : decode cL_execute 17 = .ok (.iconst 0, 1) := by decide +kernel
theorem ddL_execute_18 : decode cL_execute 18 = .ok (.ireturn, 1) := by decide +kernel
theorem ddL_errorPosition_0 : decode cL_errorPosition 0 = .ok (.aload_n 1, 1) := by decide +kernel
theorem ddL_errorPosition_1 : decode cL_errorPosition 1 = .ok (.iconst 0, 1) := by decide +kernel
theorem ddL_errorPosition_2 : decode cL_errorPosition 2 = .ok (.aload_n 0, 1) := by decide +kernel
theorem ddL_errorPosition_3 : decode cL_errorPosition 3 = .ok (.invokevirtual 134, 3) := by decide +kernel
theorem ddL_errorPosition_6 : decode cL_errorPosition 6 = .ok (.i2l, 1) := by decide +kernel
theorem ddL_errorPosition_7 : decode cL_errorPosition 7 = .ok (.lastore, 1) := by decide +kernel
theorem ddL_errorPosition_8 : decode cL_errorPosition 8 = .ok (.goto 6, 3) := by decide +kernel
theorem ddL_errorPosition_11 : decode cL_errorPosition 11 = .ok (.astore_n 2, 1) := by decide +kernel
theorem ddL_errorPosition_12 : decode cL_errorPosition 12 = .ok (.iconst 1, 1) := by decide +kernel
theorem ddL_errorPosition_13 : decode cL_errorPosition 13 = .ok (.ireturn, 1) := by decide +kernel
theorem ddL_errorPosition_14 : decode cL_errorPosition 14 = .ok (.iconst 0, 1) := by decide +kernel
theorem ddL_errorPosition_15 : decode cL_errorPosition 15 = .ok (.ireturn, 1) := by decide +kernel
theorem ddL_failedCommand_0 : decode cL_failedCommand 0 = .ok (.aload_n 1, 1) := by decide +kernel
theorem ddL_failedCommand_1 : decode cL_failedCommand 1 = .ok (.iconst 0, 1) := by decide +kernel
theorem ddL_failedCommand_2 : decode cL_failedCommand 2 = .ok (.aload_n 0, 1) := by decide +kernel
theorem ddL_failedCommand_3 : decode cL_failedCommand 3 = .ok (.invokevirtual 137, 3) := by decide +kernel
theorem ddL_failedCommand_6 : decode cL_failedCommand 6 = .ok (.i2l, 1) := by decide +kernel
theorem ddL_failedCommand_7 : decode cL_failedCommand 7 = .ok (.lastore, 1) := by decide +kernel
theorem ddL_failedCommand_8 : decode cL_failedCommand 8 = .ok (.goto 6, 3) := by decide +kernel
theorem ddL_failedCommand_11 : decode cL_failedCommand 11 = .ok (.astore_n 2, 1) := by decide +kernel
theorem ddL_failedCommand_12 : decode cL_failedCommand 12 = .ok (.iconst 1, 1) := by decide +kernel
theorem ddL_failedCommand_13 : decode cL_failedCommand 13 = .ok (.ireturn, 1) := by decide +kernel
theorem ddL_failedCommand_14 : decode cL_failedCommand 14 = .ok (.iconst 0, 1) := by decide +kernel
theorem ddL_failedCommand_15 : decode cL_failedCommand 15 = .ok (.ireturn, 1) := by decide +kernel
theorem ddL_undo_0 : decode cL_undo 0 = .ok (.aload_n 1, 1) := by decide +kernel
theorem ddL_undo_1 : decode cL_undo 1 = .ok (.iconst 0, 1) := by decide +kernel
theorem ddL_undo_2 : decode cL_undo 2 = .ok (.aload_n 0, 1) := by decide +kernel
theorem ddL_undo_3 : decode cL_undo 3 = .ok (.invokevirtual 140, 3) := by decide +kernel
theorem ddL_undo_6 : decode cL_undo 6 = .ok (.i2l, 1) := by decide +kernel
theorem ddL_undo_7 : decode cL_undo 7 = .ok (.lastore, 1) := by decide +kernel
theorem ddL_undo_8 : decode cL_undo 8 = .ok (.goto 6, 3) := by decide +kernel
theorem ddL_undo_11 : decode cL_undo 11 = .ok (.astore_n 2, 1) := by decide +kernel
theorem ddL_undo_12 : decode cL_undo 12 = .ok (.iconst 1, 1) := by decide +kernel
theorem ddL_undo_13 : decode cL_undo 13 = .ok (.ireturn, 1) := by decide +kernel
theorem ddL_undo_14 : decode cL_undo 14 = .ok (.iconst 0, 1) := by decide +kernel
theorem ddL_undo_15 : decode cL_undo 15 = .ok (.ireturn, 1) := by decide +kernel
theorem ddL_restore_0 : decode cL_restore 0 = .ok (.aload_n 1, 1) := by decide +kernel
theorem ddL_restore_1 : decode cL_restore 1 = .ok (.iconst 0, 1) := by decide +kernel
theorem ddL_restore_2 : decode cL_restore 2 = .ok (.aload_n 0, 1) := by decide +kernel
theorem ddL_restore_3 : decode cL_restore 3 = .ok (.invokevirtual 143, 3) := by decide +kernel
theorem ddL_restore_6 : decode cL_restore 6 = .ok (.i2l, 1) := by decide +kernel
theorem ddL_restore_7 : decode cL_restore 7 = .ok (.lastore, 1) := by decide +kernel
theorem ddL_restore_8 : decode cL_restore 8 = .ok (.goto 6, 3) := by decide +kernel
theorem ddL_restore_11 : decode cL_restore 11 = .ok (.astore_n 2, 1) := by decide +kernel
theorem ddL_restore_12 : decode cL_restore 12 = .ok (.iconst 1, 1) := by decide +kernel
theorem ddL_restore_13 : decode cL_restore 13 = .ok (.ireturn, 1) := by decide +kernel
theorem ddL_restore_14 : decode cL_restore 14 = .ok (.iconst 0, 1) := by decide +kernel
theorem ddL_restore_15 : decode cL_restore 15 = .ok (.ireturn, 1) := by decide +kernel
