abbrev cX2_gates : ByteArray := prog_4_method_4_code
def yX2_gates : MethodName := ⟨"GuardRoster$Roster", "gates", "()I"⟩
abbrev cX2_guards : ByteArray := prog_4_method_5_code
def yX2_guards : MethodName := ⟨"GuardRoster$Roster", "guards", "()I"⟩
abbrev cX2_rationsLeft : ByteArray := prog_4_method_6_code
def yX2_rationsLeft : MethodName := ⟨"GuardRoster$Roster", "rationsLeft", "()I"⟩
abbrev cX2_now : ByteArray := prog_4_method_7_code
def yX2_now : MethodName := ⟨"GuardRoster$Roster", "now", "()I"⟩
abbrev cX2_isGate : ByteArray := prog_4_method_8_code
def yX2_isGate : MethodName := ⟨"GuardRoster$Roster", "isGate", "(I)Z"⟩
abbrev cX2_isGuard : ByteArray := prog_4_method_9_code
def yX2_isGuard : MethodName := ⟨"GuardRoster$Roster", "isGuard", "(I)Z"⟩
abbrev cX2_isSlot : ByteArray := prog_4_method_10_code
def yX2_isSlot : MethodName := ⟨"GuardRoster$Roster", "isSlot", "(I)Z"⟩
abbrev cX2_hasPassed : ByteArray := prog_4_method_11_code
def yX2_hasPassed : MethodName := ⟨"GuardRoster$Roster", "hasPassed", "(I)Z"⟩
abbrev cX2_rankNeededAt : ByteArray := prog_4_method_12_code
def yX2_rankNeededAt : MethodName := ⟨"GuardRoster$Roster", "rankNeededAt", "(I)I"⟩
abbrev cX2_rankOf : ByteArray := prog_4_method_13_code
def yX2_rankOf : MethodName := ⟨"GuardRoster$Roster", "rankOf", "(I)I"⟩
abbrev cX2_faintsOf : ByteArray := prog_4_method_14_code
def yX2_faintsOf : MethodName := ⟨"GuardRoster$Roster", "faintsOf", "(I)I"⟩
abbrev cX2_appendGate : ByteArray := prog_4_method_15_code
def yX2_appendGate : MethodName := ⟨"GuardRoster$Roster", "appendGate", "(I)I"⟩
abbrev cX2_appendGuard : ByteArray := prog_4_method_16_code
def yX2_appendGuard : MethodName := ⟨"GuardRoster$Roster", "appendGuard", "(I)I"⟩
abbrev cX2_guardOn : ByteArray := prog_4_method_17_code
def yX2_guardOn : MethodName := ⟨"GuardRoster$Roster", "guardOn", "(II)I"⟩
abbrev cX2_setDuty : ByteArray := prog_4_method_18_code
def yX2_setDuty : MethodName := ⟨"GuardRoster$Roster", "setDuty", "(III)V"⟩
abbrev cX2_gateHeld : ByteArray := prog_4_method_19_code
def yX2_gateHeld : MethodName := ⟨"GuardRoster$Roster", "gateHeld", "(II)I"⟩
abbrev cX2_firstGateHeld : ByteArray := prog_4_method_20_code
def yX2_firstGateHeld : MethodName := ⟨"GuardRoster$Roster", "firstGateHeld", "(III)I"⟩
abbrev cX2_dutyTotal : ByteArray := prog_4_method_21_code
def yX2_dutyTotal : MethodName := ⟨"GuardRoster$Roster", "dutyTotal", "(I)I"⟩
abbrev cX2_openGatesIn : ByteArray := prog_4_method_23_code
def yX2_openGatesIn : MethodName := ⟨"GuardRoster$Roster", "openGatesIn", "(I)I"⟩
abbrev cX2_openSlotsOf : ByteArray := prog_4_method_24_code
def yX2_openSlotsOf : MethodName := ⟨"GuardRoster$Roster", "openSlotsOf", "(I)I"⟩
abbrev cX2_allDuties : ByteArray := prog_4_method_22_code
def yX2_allDuties : MethodName := ⟨"GuardRoster$Roster", "allDuties", "(I)I"⟩
abbrev cX2_hasLeave : ByteArray := prog_4_method_36_code
def yX2_hasLeave : MethodName := ⟨"GuardRoster$Roster", "hasLeave", "(II)Z"⟩
abbrev cX2_reasonAgainst : ByteArray := prog_4_method_25_code
def yX2_reasonAgainst : MethodName := ⟨"GuardRoster$Roster", "reasonAgainst", "(III)I"⟩
abbrev cX2_detailOf : ByteArray := prog_4_method_26_code
def yX2_detailOf : MethodName := ⟨"GuardRoster$Roster", "detailOf", "(IIII)I"⟩
abbrev cX2_nextSlotOf : ByteArray := prog_4_method_27_code
def yX2_nextSlotOf : MethodName := ⟨"GuardRoster$Roster", "nextSlotOf", "(I)I"⟩
abbrev cX2_longestGap : ByteArray := prog_4_method_28_code
def yX2_longestGap : MethodName := ⟨"GuardRoster$Roster", "longestGap", "(I)I"⟩
abbrev cX2_allRest : ByteArray := prog_4_method_29_code
def yX2_allRest : MethodName := ⟨"GuardRoster$Roster", "allRest", "()Z"⟩
abbrev cX2_computeOrderKeys : ByteArray := prog_4_method_30_code
def yX2_computeOrderKeys : MethodName := ⟨"GuardRoster$Roster", "computeOrderKeys", "()V"⟩
abbrev cX2_guardsBefore : ByteArray := prog_4_method_32_code
def yX2_guardsBefore : MethodName := ⟨"GuardRoster$Roster", "guardsBefore", "(I)I"⟩
abbrev cX2_guardInOrder : ByteArray := prog_4_method_31_code
def yX2_guardInOrder : MethodName := ⟨"GuardRoster$Roster", "guardInOrder", "(I)I"⟩
abbrev cX2_mostNeedingGate : ByteArray := prog_4_method_34_code
def yX2_mostNeedingGate : MethodName := ⟨"GuardRoster$Roster", "mostNeedingGate", "(I)I"⟩
abbrev cX2_firstGuardFor : ByteArray := prog_4_method_35_code
def yX2_firstGuardFor : MethodName := ⟨"GuardRoster$Roster", "firstGuardFor", "(II)I"⟩
abbrev cX2_fill : ByteArray := prog_4_method_33_code
def yX2_fill : MethodName := ⟨"GuardRoster$Roster", "fill", "(I)I"⟩
abbrev cX2_dropLeave : ByteArray := prog_4_method_39_code
def yX2_dropLeave : MethodName := ⟨"GuardRoster$Roster", "dropLeave", "(II)V"⟩
abbrev cX2_store : ByteArray := prog_4_method_40_code
def yX2_store : MethodName := ⟨"GuardRoster$Roster", "store", "(I)V"⟩
abbrev cX2_feedGuardsOf : ByteArray := prog_4_method_42_code
def yX2_feedGuardsOf : MethodName := ⟨"GuardRoster$Roster", "feedGuardsOf", "(I)I"⟩
abbrev cX2_letPass : ByteArray := prog_4_method_41_code
def yX2_letPass : MethodName := ⟨"GuardRoster$Roster", "letPass", "(I)I"⟩
theorem lk38 : Cond.fieldLink "GuardRoster$Roster" (11 : Nat) "GuardRoster$Roster" "cells" "[I" ∈ gw := gw_t 38 (by decide +kernel) rfl
theorem lk39 : Cond.fieldLink "GuardRoster$Roster" (15 : Nat) "GuardRoster$Roster" "orderKeys" "[I" ∈ gw := gw_t 39 (by decide +kernel) rfl
theorem lk170 : Cond.methodLink "GuardRoster$Roster" (38 : Nat) ({ cls := "java/lang/Math", name := "max", desc := "(II)I" } : Jvm.MethodName) ∈ gw := gw_t 170 (by decide +kernel) rfl
theorem lk173 : Cond.methodLink "GuardRoster$Roster" (43 : Nat) ({ cls := "GuardRoster$Roster", name := "gates", desc := "()I" } : Jvm.MethodName) ∈ gw := gw_t 173 (by decide +kernel) rfl
theorem lk174 : Cond.methodLink "GuardRoster$Roster" (47 : Nat) ({ cls := "GuardRoster$Roster", name := "openGatesIn", desc := "(I)I" } : Jvm.MethodName) ∈ gw := gw_t 174 (by decide +kernel) rfl
theorem lk178 : Cond.methodLink "GuardRoster$Roster" (51 : Nat) ({ cls := "GuardRoster$Roster", name := "guardOn", desc := "(II)I" } : Jvm.MethodName) ∈ gw := gw_t 178 (by decide +kernel) rfl
theorem lk182 : Cond.methodLink "GuardRoster$Roster" (24 : Nat) ({ cls := "GuardRoster$Roster", name := "isGate", desc := "(I)Z" } : Jvm.MethodName) ∈ gw := gw_t 182 (by decide +kernel) rfl
theorem lk186 : Cond.methodLink "GuardRoster$Roster" (31 : Nat) ({ cls := "GuardRoster$Roster", name := "isSlot", desc := "(I)Z" } : Jvm.MethodName) ∈ gw := gw_t 186 (by decide +kernel) rfl
theorem lk198 : Cond.methodLink "GuardRoster$Roster" (54 : Nat) ({ cls := "GuardRoster$Roster", name := "now", desc := "()I" } : Jvm.MethodName) ∈ gw := gw_t 198 (by decide +kernel) rfl
theorem lk325 : Cond.methodLink "GuardRoster$Roster" (57 : Nat) ({ cls := "GuardRoster$Roster", name := "rankOf", desc := "(I)I" } : Jvm.MethodName) ∈ gw := gw_t 325 (by decide +kernel) rfl
theorem lk329 : Cond.methodLink "GuardRoster$Roster" (28 : Nat) ({ cls := "GuardRoster$Roster", name := "isGuard", desc := "(I)Z" } : Jvm.MethodName) ∈ gw := gw_t 329 (by decide +kernel) rfl
theorem lk333 : Cond.methodLink "GuardRoster$Roster" (60 : Nat) ({ cls := "GuardRoster$Roster", name := "rankNeededAt", desc := "(I)I" } : Jvm.MethodName) ∈ gw := gw_t 333 (by decide +kernel) rfl
theorem lk337 : Cond.methodLink "GuardRoster$Roster" (63 : Nat) ({ cls := "GuardRoster$Roster", name := "hasLeave", desc := "(II)Z" } : Jvm.MethodName) ∈ gw := gw_t 337 (by decide +kernel) rfl
theorem lk341 : Cond.methodLink "GuardRoster$Roster" (34 : Nat) ({ cls := "GuardRoster$Roster", name := "gateHeld", desc := "(II)I" } : Jvm.MethodName) ∈ gw := gw_t 341 (by decide +kernel) rfl
theorem lk375 : Cond.methodLink "GuardRoster$Roster" (67 : Nat) ({ cls := "GuardRoster$Roster", name := "guards", desc := "()I" } : Jvm.MethodName) ∈ gw := gw_t 375 (by decide +kernel) rfl
theorem lk657 : Cond.methodLink "GuardRoster$Roster" (73 : Nat) ({ cls := "GuardRoster$Roster", name := "computeOrderKeys", desc := "()V" } : Jvm.MethodName) ∈ gw := gw_t 657 (by decide +kernel) rfl
theorem lk661 : Cond.methodLink "GuardRoster$Roster" (70 : Nat) ({ cls := "GuardRoster$Roster", name := "dutyTotal", desc := "(I)I" } : Jvm.MethodName) ∈ gw := gw_t 661 (by decide +kernel) rfl
theorem lk662 : Cond.methodLink "GuardRoster$Roster" (79 : Nat) ({ cls := "GuardRoster$Roster", name := "mostNeedingGate", desc := "(I)I" } : Jvm.MethodName) ∈ gw := gw_t 662 (by decide +kernel) rfl
theorem lk666 : Cond.methodLink "GuardRoster$Roster" (82 : Nat) ({ cls := "GuardRoster$Roster", name := "firstGuardFor", desc := "(II)I" } : Jvm.MethodName) ∈ gw := gw_t 666 (by decide +kernel) rfl
theorem lk670 : Cond.methodLink "GuardRoster$Roster" (89 : Nat) ({ cls := "GuardRoster$Roster", name := "reasonAgainst", desc := "(III)I" } : Jvm.MethodName) ∈ gw := gw_t 670 (by decide +kernel) rfl
theorem lk671 : Cond.methodLink "GuardRoster$Roster" (85 : Nat) ({ cls := "GuardRoster$Roster", name := "setDuty", desc := "(III)V" } : Jvm.MethodName) ∈ gw := gw_t 671 (by decide +kernel) rfl
theorem lk751 : Cond.methodLink "GuardRoster$Roster" (76 : Nat) ({ cls := "GuardRoster$Roster", name := "guardsBefore", desc := "(I)I" } : Jvm.MethodName) ∈ gw := gw_t 751 (by decide +kernel) rfl
theorem lk837 : Cond.methodLink "GuardRoster$Roster" (101 : Nat) ({ cls := "GuardRoster$Roster", name := "feedGuardsOf", desc := "(I)I" } : Jvm.MethodName) ∈ gw := gw_t 837 (by decide +kernel) rfl
theorem mf_X2_gates : MFV yX2_gates cX2_gates 1 (some .int) 0 := ⟨⟨gw_t 153 (by decide +kernel) rfl, gw_t 2 (by decide +kernel) rfl, ⟨by decide, by decide⟩, by decide⟩, gw_t 151 (by decide +kernel) rfl, gw_t 152 (by decide +kernel) rfl⟩
theorem mf_X2_guards : MFV yX2_guards cX2_guards 1 (some .int) 0 := ⟨⟨gw_t 161 (by decide +kernel) rfl, gw_t 2 (by decide +kernel) rfl, ⟨by decide, by decide⟩, by decide⟩, gw_t 159 (by decide +kernel) rfl, gw_t 160 (by decide +kernel) rfl⟩
theorem mf_X2_rationsLeft : MFV yX2_rationsLeft cX2_rationsLeft 1 (some .int) 0 := ⟨⟨gw_t 215 (by decide +kernel) rfl, gw_t 2 (by decide +kernel) rfl, ⟨by decide, by decide⟩, by decide⟩, gw_t 213 (by decide +kernel) rfl, gw_t 214 (by decide +kernel) rfl⟩
theorem mf_X2_now : MFV yX2_now cX2_now 1 (some .int) 0 := ⟨⟨gw_t 201 (by decide +kernel) rfl, gw_t 2 (by decide +kernel) rfl, ⟨by decide, by decide⟩, by decide⟩, gw_t 199 (by decide +kernel) rfl, gw_t 200 (by decide +kernel) rfl⟩
theorem mf_X2_isGate : MFV yX2_isGate cX2_isGate 2 (some .boolean) 1 := ⟨⟨gw_t 185 (by decide +kernel) rfl, gw_t 2 (by decide +kernel) rfl, ⟨by decide, by decide⟩, by decide⟩, gw_t 183 (by decide +kernel) rfl, gw_t 184 (by decide +kernel) rfl⟩
theorem mf_X2_isGuard : MFV yX2_isGuard cX2_isGuard 2 (some .boolean) 1 := ⟨⟨gw_t 332 (by decide +kernel) rfl, gw_t 2 (by decide +kernel) rfl, ⟨by decide, by decide⟩, by decide⟩, gw_t 330 (by decide +kernel) rfl, gw_t 331 (by decide +kernel) rfl⟩
theorem mf_X2_isSlot : MFV yX2_isSlot cX2_isSlot 2 (some .boolean) 1 := ⟨⟨gw_t 189 (by decide +kernel) rfl, gw_t 2 (by decide +kernel) rfl, ⟨by decide, by decide⟩, by decide⟩, gw_t 187 (by decide +kernel) rfl, gw_t 188 (by decide +kernel) rfl⟩
theorem mf_X2_hasPassed : MFV yX2_hasPassed cX2_hasPassed 2 (some .boolean) 1 := ⟨⟨gw_t 585 (by decide +kernel) rfl, gw_t 2 (by decide +kernel) rfl, ⟨by decide, by decide⟩, by decide⟩, gw_t 583 (by decide +kernel) rfl, gw_t 584 (by decide +kernel) rfl⟩
theorem mf_X2_rankNeededAt : MFV yX2_rankNeededAt cX2_rankNeededAt 2 (some .int) 1 := ⟨⟨gw_t 336 (by decide +kernel) rfl, gw_t 2 (by decide +kernel) rfl, ⟨by decide, by decide⟩, by decide⟩, gw_t 334 (by decide +kernel) rfl, gw_t 335 (by decide +kernel) rfl⟩
theorem mf_X2_rankOf : MFV yX2_rankOf cX2_rankOf 2 (some .int) 1 := ⟨⟨gw_t 328 (by decide +kernel) rfl, gw_t 2 (by decide +kernel) rfl, ⟨by decide, by decide⟩, by decide⟩, gw_t 326 (by decide +kernel) rfl, gw_t 327 (by decide +kernel) rfl⟩
theorem mf_X2_faintsOf : MFV yX2_faintsOf cX2_faintsOf 2 (some .int) 1 := ⟨⟨gw_t 569 (by decide +kernel) rfl, gw_t 2 (by decide +kernel) rfl, ⟨by decide, by decide⟩, by decide⟩, gw_t 567 (by decide +kernel) rfl, gw_t 568 (by decide +kernel) rfl⟩
theorem mf_X2_appendGate : MFV yX2_appendGate cX2_appendGate 3 (some .int) 1 := ⟨⟨gw_t 498 (by decide +kernel) rfl, gw_t 2 (by decide +kernel) rfl, ⟨by decide, by decide⟩, by decide⟩, gw_t 496 (by decide +kernel) rfl, gw_t 497 (by decide +kernel) rfl⟩
theorem mf_X2_appendGuard : MFV yX2_appendGuard cX2_appendGuard 3 (some .int) 1 := ⟨⟨gw_t 513 (by decide +kernel) rfl, gw_t 2 (by decide +kernel) rfl, ⟨by decide, by decide⟩, by decide⟩, gw_t 511 (by decide +kernel) rfl, gw_t 512 (by decide +kernel) rfl⟩
theorem mf_X2_guardOn : MFV yX2_guardOn cX2_guardOn 3 (some .int) 2 := ⟨⟨gw_t 181 (by decide +kernel) rfl, gw_t 2 (by decide +kernel) rfl, ⟨by decide, by decide⟩, by decide⟩, gw_t 179 (by decide +kernel) rfl, gw_t 180 (by decide +kernel) rfl⟩
theorem mf_X2_setDuty : MFV yX2_setDuty cX2_setDuty 4 (none) 3 := ⟨⟨gw_t 602 (by decide +kernel) rfl, gw_t 2 (by decide +kernel) rfl, ⟨by decide, by decide⟩, by decide⟩, gw_t 600 (by decide +kernel) rfl, gw_t 601 (by decide +kernel) rfl⟩
theorem mf_X2_gateHeld : MFV yX2_gateHeld cX2_gateHeld 4 (some .int) 2 := ⟨⟨gw_t 344 (by decide +kernel) rfl, gw_t 2 (by decide +kernel) rfl, ⟨by decide, by decide⟩, by decide⟩, gw_t 342 (by decide +kernel) rfl, gw_t 343 (by decide +kernel) rfl⟩
theorem mf_X2_firstGateHeld : MFV yX2_firstGateHeld cX2_firstGateHeld 6 (some .int) 3 := ⟨⟨gw_t 769 (by decide +kernel) rfl, gw_t 2 (by decide +kernel) rfl, ⟨by decide, by decide⟩, by decide⟩, gw_t 767 (by decide +kernel) rfl, gw_t 768 (by decide +kernel) rfl⟩
theorem mf_X2_dutyTotal : MFV yX2_dutyTotal cX2_dutyTotal 4 (some .int) 1 := ⟨⟨gw_t 606 (by decide +kernel) rfl, gw_t 2 (by decide +kernel) rfl, ⟨by decide, by decide⟩, by decide⟩, gw_t 604 (by decide +kernel) rfl, gw_t 605 (by decide +kernel) rfl⟩
theorem mf_X2_openGatesIn : MFV yX2_openGatesIn cX2_openGatesIn 4 (some .int) 1 := ⟨⟨gw_t 177 (by decide +kernel) rfl, gw_t 2 (by decide +kernel) rfl, ⟨by decide, by decide⟩, by decide⟩, gw_t 175 (by decide +kernel) rfl, gw_t 176 (by decide +kernel) rfl⟩
theorem mf_X2_openSlotsOf : MFV yX2_openSlotsOf cX2_openSlotsOf 4 (some .int) 1 := ⟨⟨gw_t 197 (by decide +kernel) rfl, gw_t 2 (by decide +kernel) rfl, ⟨by decide, by decide⟩, by decide⟩, gw_t 195 (by decide +kernel) rfl, gw_t 196 (by decide +kernel) rfl⟩
theorem mf_X2_allDuties : MFV yX2_allDuties cX2_allDuties 4 (some .int) 1 := ⟨⟨gw_t 169 (by decide +kernel) rfl, gw_t 2 (by decide +kernel) rfl, ⟨by decide, by decide⟩, by decide⟩, gw_t 167 (by decide +kernel) rfl, gw_t 168 (by decide +kernel) rfl⟩
theorem mf_X2_hasLeave : MFV yX2_hasLeave cX2_hasLeave 3 (some .boolean) 2 := ⟨⟨gw_t 340 (by decide +kernel) rfl, gw_t 2 (by decide +kernel) rfl, ⟨by decide, by decide⟩, by decide⟩, gw_t 338 (by decide +kernel) rfl, gw_t 339 (by decide +kernel) rfl⟩
theorem mf_X2_reasonAgainst : MFV yX2_reasonAgainst cX2_reasonAgainst 4 (some .int) 3 := ⟨⟨gw_t 324 (by decide +kernel) rfl, gw_t 2 (by decide +kernel) rfl, ⟨by decide, by decide⟩, by decide⟩, gw_t 322 (by decide +kernel) rfl, gw_t 323 (by decide +kernel) rfl⟩
theorem mf_X2_detailOf : MFV yX2_detailOf cX2_detailOf 5 (some .int) 4 := ⟨⟨gw_t 594 (by decide +kernel) rfl, gw_t 2 (by decide +kernel) rfl, ⟨by decide, by decide⟩, by decide⟩, gw_t 592 (by decide +kernel) rfl, gw_t 593 (by decide +kernel) rfl⟩
theorem mf_X2_nextSlotOf : MFV yX2_nextSlotOf cX2_nextSlotOf 3 (some .int) 1 := ⟨⟨gw_t 726 (by decide +kernel) rfl, gw_t 2 (by decide +kernel) rfl, ⟨by decide, by decide⟩, by decide⟩, gw_t 724 (by decide +kernel) rfl, gw_t 725 (by decide +kernel) rfl⟩
theorem mf_X2_longestGap : MFV yX2_longestGap cX2_longestGap 5 (some .int) 1 := ⟨⟨gw_t 738 (by decide +kernel) rfl, gw_t 2 (by decide +kernel) rfl, ⟨by decide, by decide⟩, by decide⟩, gw_t 736 (by decide +kernel) rfl, gw_t 737 (by decide +kernel) rfl⟩
theorem mf_X2_allRest : MFV yX2_allRest cX2_allRest 3 (some .boolean) 0 := ⟨⟨gw_t 374 (by decide +kernel) rfl, gw_t 2 (by decide +kernel) rfl, ⟨by decide, by decide⟩, by decide⟩, gw_t 372 (by decide +kernel) rfl, gw_t 373 (by decide +kernel) rfl⟩
theorem mf_X2_computeOrderKeys : MFV yX2_computeOrderKeys cX2_computeOrderKeys 2 (none) 0 := ⟨⟨gw_t 660 (by decide +kernel) rfl, gw_t 2 (by decide +kernel) rfl, ⟨by decide, by decide⟩, by decide⟩, gw_t 659 (by decide +kernel) rfl, gw_p (q := (yX2_computeOrderKeys, 2)) 12 (by decide +kernel)⟩
theorem mf_X2_guardsBefore : MFV yX2_guardsBefore cX2_guardsBefore 4 (some .int) 1 := ⟨⟨gw_t 754 (by decide +kernel) rfl, gw_t 2 (by decide +kernel) rfl, ⟨by decide, by decide⟩, by decide⟩, gw_t 753 (by decide +kernel) rfl, gw_p (q := (yX2_guardsBefore, 2)) 16 (by decide +kernel)⟩
theorem mf_X2_guardInOrder : MFV yX2_guardInOrder cX2_guardInOrder 3 (some .int) 1 := ⟨⟨gw_t 750 (by decide +kernel) rfl, gw_t 2 (by decide +kernel) rfl, ⟨by decide, by decide⟩, by decide⟩, gw_t 748 (by decide +kernel) rfl, gw_t 749 (by decide +kernel) rfl⟩
theorem mf_X2_mostNeedingGate : MFV yX2_mostNeedingGate cX2_mostNeedingGate 5 (some .int) 1 := ⟨⟨gw_t 665 (by decide +kernel) rfl, gw_t 2 (by decide +kernel) rfl, ⟨by decide, by decide⟩, by decide⟩, gw_t 664 (by decide +kernel) rfl, gw_p (q := (yX2_mostNeedingGate, 2)) 13 (by decide +kernel)⟩
theorem mf_X2_firstGuardFor : MFV yX2_firstGuardFor cX2_firstGuardFor 6 (some .int) 2 := ⟨⟨gw_t 669 (by decide +kernel) rfl, gw_t 2 (by decide +kernel) rfl, ⟨by decide, by decide⟩, by decide⟩, gw_t 668 (by decide +kernel) rfl, gw_p (q := (yX2_firstGuardFor, 2)) 14 (by decide +kernel)⟩
theorem mf_X2_fill : MFV yX2_fill cX2_fill 7 (some .int) 1 := ⟨⟨gw_t 656 (by decide +kernel) rfl, gw_t 2 (by decide +kernel) rfl, ⟨by decide, by decide⟩, by decide⟩, gw_t 654 (by decide +kernel) rfl, gw_t 655 (by decide +kernel) rfl⟩
theorem mf_X2_dropLeave : MFV yX2_dropLeave cX2_dropLeave 3 (none) 2 := ⟨⟨gw_t 791 (by decide +kernel) rfl, gw_t 2 (by decide +kernel) rfl, ⟨by decide, by decide⟩, by decide⟩, gw_t 789 (by decide +kernel) rfl, gw_t 790 (by decide +kernel) rfl⟩
theorem mf_X2_store : MFV yX2_store cX2_store 2 (none) 1 := ⟨⟨gw_t 821 (by decide +kernel) rfl, gw_t 2 (by decide +kernel) rfl, ⟨by decide, by decide⟩, by decide⟩, gw_t 819 (by decide +kernel) rfl, gw_t 820 (by decide +kernel) rfl⟩
theorem mf_X2_feedGuardsOf : MFV yX2_feedGuardsOf cX2_feedGuardsOf 5 (some .int) 1 := ⟨⟨gw_t 840 (by decide +kernel) rfl, gw_t 2 (by decide +kernel) rfl, ⟨by decide, by decide⟩, by decide⟩, gw_t 839 (by decide +kernel) rfl, gw_p (q := (yX2_feedGuardsOf, 2)) 20 (by decide +kernel)⟩
theorem mf_X2_letPass : MFV yX2_letPass cX2_letPass 4 (some .int) 1 := ⟨⟨gw_t 836 (by decide +kernel) rfl, gw_t 2 (by decide +kernel) rfl, ⟨by decide, by decide⟩, by decide⟩, gw_t 834 (by decide +kernel) rfl, gw_t 835 (by decide +kernel) rfl⟩
