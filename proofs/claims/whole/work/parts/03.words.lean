theorem lk0 : Cond.initialized "GuardRosterLaw" ∈ gw := gw_t1 0 rfl rfl
theorem lk1 : Cond.initialized "GuardRoster" ∈ gw := gw_t1 1 rfl rfl
theorem lk2 : Cond.initialized "GuardRoster$Roster" ∈ gw := gw_t1 2 rfl rfl
theorem lk3 : Cond.initialized "GuardRoster$History" ∈ gw := gw_t1 3 rfl rfl
theorem lk4 : Cond.initialized "GuardRoster$SlotPlan" ∈ gw := gw_t1 4 rfl rfl
theorem lk5 : Cond.initialized "GuardRoster$CommandText" ∈ gw := gw_t1 5 rfl rfl
theorem lk6 : Cond.initialized "GuardRosterModel" ∈ gw := gw_t1 6 rfl rfl
theorem lk7 : Cond.initialized "java/lang/Throwable" ∈ gw := gw_t1 7 rfl rfl
theorem lk8 : Cond.initialized "java/lang/Exception" ∈ gw := gw_t1 8 rfl rfl
theorem lk9 : Cond.initialized "java/lang/RuntimeException" ∈ gw := gw_t1 9 rfl rfl
theorem lk10 : Cond.initialized "java/lang/IndexOutOfBoundsException" ∈ gw := gw_t1 10 rfl rfl
theorem lk11 : Cond.initialized "java/lang/IllegalArgumentException" ∈ gw := gw_t1 11 rfl rfl
theorem lk12 : Cond.initialized "java/lang/IllegalStateException" ∈ gw := gw_t1 12 rfl rfl
theorem lk13 : Cond.initialized "java/util/NoSuchElementException" ∈ gw := gw_t1 13 rfl rfl
theorem lk14 : Cond.initialized "java/lang/UnsupportedOperationException" ∈ gw := gw_t1 14 rfl rfl
theorem lk15 : Cond.initialized "java/lang/System" ∈ gw := gw_t1 15 rfl rfl
theorem lk16 : Cond.initialized "java/lang/Math" ∈ gw := gw_t1 16 rfl rfl
theorem lk17 : Cond.initialized "java/lang/ArrayIndexOutOfBoundsException" ∈ gw := gw_t1 17 rfl rfl
theorem lk18 : Cond.initialized "java/lang/String" ∈ gw := gw_t1 18 rfl rfl
theorem lk19 : Cond.initialized "java/lang/Integer" ∈ gw := gw_t1 19 rfl rfl
theorem lk20 : Cond.initialized "java/lang/ArithmeticException" ∈ gw := gw_t1 20 rfl rfl
theorem lk21 : Cond.initialized "java/lang/StringLatin1" ∈ gw := gw_t1 21 rfl rfl
theorem lk22 : Cond.initialized "jdk/internal/util/Preconditions" ∈ gw := gw_t1 22 rfl rfl
theorem lk23 : Cond.initialized "java/lang/StringUTF16" ∈ gw := gw_t1 23 rfl rfl
theorem lk24 : Cond.classLink "GuardRosterLaw" (8 : Nat) "GuardRoster" ∈ gw := gw_t1 24 rfl rfl
theorem lk25 : Cond.instantiable "GuardRoster" (12 : Nat) ∈ gw := gw_t1 25 rfl rfl
theorem lk26 : Cond.methodLink "GuardRosterLaw" (146 : Nat) ({ cls := "GuardRoster", name := "<init>", desc := "()V" } : Jvm.MethodName) ∈ gw := gw_t1 26 rfl rfl
theorem lk27 : Cond.instanceMethod ({ cls := "GuardRoster", name := "<init>", desc := "()V" } : Jvm.MethodName) ∈ gw := gw_t1 27 rfl rfl
theorem lk29 : Cond.methodLink "GuardRoster" (1 : Nat) ({ cls := "java/lang/Object", name := "<init>", desc := "()V" } : Jvm.MethodName) ∈ gw := gw_t1 29 rfl rfl
theorem lk30 : Cond.instanceMethod ({ cls := "java/lang/Object", name := "<init>", desc := "()V" } : Jvm.MethodName) ∈ gw := gw_t1 30 rfl rfl
theorem lk32 : Cond.classLink "GuardRoster" (7 : Nat) "GuardRoster$Roster" ∈ gw := gw_t1 32 rfl rfl
theorem lk33 : Cond.instantiable "GuardRoster$Roster" (2 : Nat) ∈ gw := gw_t1 33 rfl rfl
theorem lk34 : Cond.methodLink "GuardRoster" (9 : Nat) ({ cls := "GuardRoster$Roster", name := "<init>", desc := "()V" } : Jvm.MethodName) ∈ gw := gw_t1 34 rfl rfl
theorem lk35 : Cond.instanceMethod ({ cls := "GuardRoster$Roster", name := "<init>", desc := "()V" } : Jvm.MethodName) ∈ gw := gw_t1 35 rfl rfl
theorem lk37 : Cond.methodLink "GuardRoster$Roster" (5 : Nat) ({ cls := "java/lang/Object", name := "<init>", desc := "()V" } : Jvm.MethodName) ∈ gw := gw_t1 37 rfl rfl
theorem lk38 : Cond.fieldLink "GuardRoster$Roster" (11 : Nat) "GuardRoster$Roster" "cells" "[I" ∈ gw := gw_t1 38 rfl rfl
theorem lk39 : Cond.fieldLink "GuardRoster$Roster" (15 : Nat) "GuardRoster$Roster" "orderKeys" "[I" ∈ gw := gw_t1 39 rfl rfl
theorem lk45 : Cond.arrayClass Jvm.ClassFile.FieldType.int ∈ gw := gw_t1 45 rfl rfl
theorem lk46 : Cond.classLink "GuardRoster" (16 : Nat) "GuardRoster$History" ∈ gw := gw_t1 46 rfl rfl
theorem lk47 : Cond.instantiable "GuardRoster$History" (3 : Nat) ∈ gw := gw_t1 47 rfl rfl
theorem lk49 : Cond.instanceMethod ({ cls := "GuardRoster$History", name := "<init>", desc := "()V" } : Jvm.MethodName) ∈ gw := gw_t1 49 rfl rfl
theorem lk51 : Cond.methodLink "GuardRoster$History" (3 : Nat) ({ cls := "java/lang/Object", name := "<init>", desc := "()V" } : Jvm.MethodName) ∈ gw := gw_t1 51 rfl rfl
theorem lk52 : Cond.classLink "GuardRoster$History" (13 : Nat) "[[I" ∈ gw := gw_t1 52 rfl rfl
theorem lk54 : Cond.fieldLink "GuardRoster$History" (15 : Nat) "GuardRoster$History" "rows" "[[I" ∈ gw := gw_t1 54 rfl rfl
theorem lk55 : Cond.fieldLink "GuardRoster$History" (29 : Nat) "GuardRoster$History" "next" "I" ∈ gw := gw_t1 55 rfl rfl
theorem lk56 : Cond.fieldLink "GuardRoster$History" (18 : Nat) "GuardRoster$History" "size" "I" ∈ gw := gw_t1 56 rfl rfl
theorem lk64 : Cond.classLink "GuardRoster" (23 : Nat) "GuardRoster$SlotPlan" ∈ gw := gw_t1 64 rfl rfl
theorem lk65 : Cond.instantiable "GuardRoster$SlotPlan" (4 : Nat) ∈ gw := gw_t1 65 rfl rfl
theorem lk67 : Cond.instanceMethod ({ cls := "GuardRoster$SlotPlan", name := "<init>", desc := "()V" } : Jvm.MethodName) ∈ gw := gw_t1 67 rfl rfl
theorem lk69 : Cond.methodLink "GuardRoster$SlotPlan" (3 : Nat) ({ cls := "java/lang/Object", name := "<init>", desc := "()V" } : Jvm.MethodName) ∈ gw := gw_t1 69 rfl rfl
theorem lk70 : Cond.fieldLink "GuardRoster$SlotPlan" (9 : Nat) "GuardRoster$SlotPlan" "fits" "[I" ∈ gw := gw_t1 70 rfl rfl
theorem lk71 : Cond.fieldLink "GuardRoster$SlotPlan" (15 : Nat) "GuardRoster$SlotPlan" "gateGiven" "[I" ∈ gw := gw_t1 71 rfl rfl
theorem lk72 : Cond.fieldLink "GuardRoster$SlotPlan" (39 : Nat) "GuardRoster$SlotPlan" "triedGuards" "I" ∈ gw := gw_t1 72 rfl rfl
theorem lk73 : Cond.fieldLink "GuardRoster$SlotPlan" (18 : Nat) "GuardRoster$SlotPlan" "guardsOfSet" "[I" ∈ gw := gw_t1 73 rfl rfl
theorem lk83 : Cond.classLink "GuardRoster" (30 : Nat) "GuardRoster$CommandText" ∈ gw := gw_t1 83 rfl rfl
theorem lk84 : Cond.instantiable "GuardRoster$CommandText" (6 : Nat) ∈ gw := gw_t1 84 rfl rfl
theorem lk86 : Cond.instanceMethod ({ cls := "GuardRoster$CommandText", name := "<init>", desc := "()V" } : Jvm.MethodName) ∈ gw := gw_t1 86 rfl rfl
theorem lk88 : Cond.methodLink "GuardRoster$CommandText" (3 : Nat) ({ cls := "java/lang/Object", name := "<init>", desc := "()V" } : Jvm.MethodName) ∈ gw := gw_t1 88 rfl rfl
theorem lk89 : Cond.fieldLink "GuardRoster$CommandText" (9 : Nat) "GuardRoster$CommandText" "characters" "[C" ∈ gw := gw_t1 89 rfl rfl
theorem lk90 : Cond.fieldLink "GuardRoster$CommandText" (22 : Nat) "GuardRoster$CommandText" "length" "I" ∈ gw := gw_t1 90 rfl rfl
theorem lk91 : Cond.fieldLink "GuardRoster$CommandText" (15 : Nat) "GuardRoster$CommandText" "kinds" "[I" ∈ gw := gw_t1 91 rfl rfl
theorem lk92 : Cond.fieldLink "GuardRoster$CommandText" (19 : Nat) "GuardRoster$CommandText" "values" "[I" ∈ gw := gw_t1 92 rfl rfl
theorem lk93 : Cond.fieldLink "GuardRoster$CommandText" (26 : Nat) "GuardRoster$CommandText" "count" "I" ∈ gw := gw_t1 93 rfl rfl
theorem lk94 : Cond.fieldLink "GuardRoster$CommandText" (29 : Nat) "GuardRoster$CommandText" "wrong" "I" ∈ gw := gw_t1 94 rfl rfl
theorem lk108 : Cond.arrayClass Jvm.ClassFile.FieldType.char ∈ gw := gw_t1 108 rfl rfl
theorem lk109 : Cond.fieldLink "GuardRoster" (10 : Nat) "GuardRoster" "roster" "LGuardRoster$Roster;" ∈ gw := gw_t1 109 rfl rfl
theorem lk110 : Cond.fieldLink "GuardRoster" (19 : Nat) "GuardRoster" "history" "LGuardRoster$History;" ∈ gw := gw_t1 110 rfl rfl
theorem lk111 : Cond.fieldLink "GuardRoster" (26 : Nat) "GuardRoster" "plan" "LGuardRoster$SlotPlan;" ∈ gw := gw_t1 111 rfl rfl
theorem lk112 : Cond.fieldLink "GuardRoster" (33 : Nat) "GuardRoster" "text" "LGuardRoster$CommandText;" ∈ gw := gw_t1 112 rfl rfl
theorem lk113 : Cond.fieldLink "GuardRoster" (37 : Nat) "GuardRoster" "savedCells" "[I" ∈ gw := gw_t1 113 rfl rfl
theorem lk114 : Cond.fieldLink "GuardRoster" (347 : Nat) "GuardRoster" "saved" "Z" ∈ gw := gw_t1 114 rfl rfl
theorem lk115 : Cond.fieldLink "GuardRoster" (41 : Nat) "GuardRoster" "output" "[C" ∈ gw := gw_t1 115 rfl rfl
theorem lk116 : Cond.fieldLink "GuardRoster" (253 : Nat) "GuardRoster" "outputLength" "I" ∈ gw := gw_t1 116 rfl rfl
theorem lk117 : Cond.fieldLink "GuardRoster" (240 : Nat) "GuardRoster" "latestReason" "I" ∈ gw := gw_t1 117 rfl rfl
theorem lk118 : Cond.fieldLink "GuardRoster" (243 : Nat) "GuardRoster" "latestDetail" "I" ∈ gw := gw_t1 118 rfl rfl
theorem lk119 : Cond.fieldLink "GuardRoster" (45 : Nat) "GuardRoster" "latestErrorPosition" "I" ∈ gw := gw_t1 119 rfl rfl
theorem lk120 : Cond.fieldLink "GuardRoster" (49 : Nat) "GuardRoster" "latestFailedCommand" "I" ∈ gw := gw_t1 120 rfl rfl
theorem lk146 : Cond.methodLink "GuardRosterLaw" (162 : Nat) ({ cls := "GuardRoster", name := "gateCount", desc := "()I" } : Jvm.MethodName) ∈ gw := gw_t1 146 rfl rfl
theorem lk147 : Cond.instanceMethod ({ cls := "GuardRoster", name := "gateCount", desc := "()I" } : Jvm.MethodName) ∈ gw := gw_t1 147 rfl rfl
theorem lk150 : Cond.methodLink "GuardRoster" (73 : Nat) ({ cls := "GuardRoster$Roster", name := "gates", desc := "()I" } : Jvm.MethodName) ∈ gw := gw_t1 150 rfl rfl
theorem lk151 : Cond.instanceMethod ({ cls := "GuardRoster$Roster", name := "gates", desc := "()I" } : Jvm.MethodName) ∈ gw := gw_t1 151 rfl rfl
theorem lk154 : Cond.methodLink "GuardRosterLaw" (166 : Nat) ({ cls := "GuardRoster", name := "guardCount", desc := "()I" } : Jvm.MethodName) ∈ gw := gw_t1 154 rfl rfl
theorem lk155 : Cond.instanceMethod ({ cls := "GuardRoster", name := "guardCount", desc := "()I" } : Jvm.MethodName) ∈ gw := gw_t1 155 rfl rfl
theorem lk158 : Cond.methodLink "GuardRoster" (77 : Nat) ({ cls := "GuardRoster$Roster", name := "guards", desc := "()I" } : Jvm.MethodName) ∈ gw := gw_t1 158 rfl rfl
theorem lk159 : Cond.instanceMethod ({ cls := "GuardRoster$Roster", name := "guards", desc := "()I" } : Jvm.MethodName) ∈ gw := gw_t1 159 rfl rfl
theorem lk162 : Cond.methodLink "GuardRosterLaw" (206 : Nat) ({ cls := "GuardRoster", name := "dutyCount", desc := "()I" } : Jvm.MethodName) ∈ gw := gw_t1 162 rfl rfl
theorem lk163 : Cond.instanceMethod ({ cls := "GuardRoster", name := "dutyCount", desc := "()I" } : Jvm.MethodName) ∈ gw := gw_t1 163 rfl rfl
theorem lk166 : Cond.methodLink "GuardRoster" (161 : Nat) ({ cls := "GuardRoster$Roster", name := "allDuties", desc := "(I)I" } : Jvm.MethodName) ∈ gw := gw_t1 166 rfl rfl
theorem lk167 : Cond.instanceMethod ({ cls := "GuardRoster$Roster", name := "allDuties", desc := "(I)I" } : Jvm.MethodName) ∈ gw := gw_t1 167 rfl rfl
theorem lk170 : Cond.methodLink "GuardRoster$Roster" (38 : Nat) ({ cls := "java/lang/Math", name := "max", desc := "(II)I" } : Jvm.MethodName) ∈ gw := gw_t1 170 rfl rfl
theorem lk171 : Cond.static ({ cls := "java/lang/Math", name := "max", desc := "(II)I" } : Jvm.MethodName) ∈ gw := gw_t1 171 rfl rfl
theorem lk173 : Cond.methodLink "GuardRoster$Roster" (43 : Nat) ({ cls := "GuardRoster$Roster", name := "gates", desc := "()I" } : Jvm.MethodName) ∈ gw := gw_t1 173 rfl rfl
theorem lk174 : Cond.methodLink "GuardRoster$Roster" (47 : Nat) ({ cls := "GuardRoster$Roster", name := "openGatesIn", desc := "(I)I" } : Jvm.MethodName) ∈ gw := gw_t1 174 rfl rfl
theorem lk175 : Cond.instanceMethod ({ cls := "GuardRoster$Roster", name := "openGatesIn", desc := "(I)I" } : Jvm.MethodName) ∈ gw := gw_t1 175 rfl rfl
theorem lk178 : Cond.methodLink "GuardRoster$Roster" (51 : Nat) ({ cls := "GuardRoster$Roster", name := "guardOn", desc := "(II)I" } : Jvm.MethodName) ∈ gw := gw_t1 178 rfl rfl
theorem lk179 : Cond.instanceMethod ({ cls := "GuardRoster$Roster", name := "guardOn", desc := "(II)I" } : Jvm.MethodName) ∈ gw := gw_t1 179 rfl rfl
theorem lk182 : Cond.methodLink "GuardRoster$Roster" (24 : Nat) ({ cls := "GuardRoster$Roster", name := "isGate", desc := "(I)Z" } : Jvm.MethodName) ∈ gw := gw_t1 182 rfl rfl
theorem lk183 : Cond.instanceMethod ({ cls := "GuardRoster$Roster", name := "isGate", desc := "(I)Z" } : Jvm.MethodName) ∈ gw := gw_t1 183 rfl rfl
theorem lk186 : Cond.methodLink "GuardRoster$Roster" (31 : Nat) ({ cls := "GuardRoster$Roster", name := "isSlot", desc := "(I)Z" } : Jvm.MethodName) ∈ gw := gw_t1 186 rfl rfl
theorem lk187 : Cond.instanceMethod ({ cls := "GuardRoster$Roster", name := "isSlot", desc := "(I)Z" } : Jvm.MethodName) ∈ gw := gw_t1 187 rfl rfl
theorem lk190 : Cond.methodLink "GuardRosterLaw" (213 : Nat) ({ cls := "GuardRoster", name := "openPlaces", desc := "()I" } : Jvm.MethodName) ∈ gw := gw_t1 190 rfl rfl
theorem lk191 : Cond.instanceMethod ({ cls := "GuardRoster", name := "openPlaces", desc := "()I" } : Jvm.MethodName) ∈ gw := gw_t1 191 rfl rfl
theorem lk194 : Cond.methodLink "GuardRoster" (170 : Nat) ({ cls := "GuardRoster$Roster", name := "openSlotsOf", desc := "(I)I" } : Jvm.MethodName) ∈ gw := gw_t1 194 rfl rfl
theorem lk195 : Cond.instanceMethod ({ cls := "GuardRoster$Roster", name := "openSlotsOf", desc := "(I)I" } : Jvm.MethodName) ∈ gw := gw_t1 195 rfl rfl
theorem lk198 : Cond.methodLink "GuardRoster$Roster" (54 : Nat) ({ cls := "GuardRoster$Roster", name := "now", desc := "()I" } : Jvm.MethodName) ∈ gw := gw_t1 198 rfl rfl
theorem lk199 : Cond.instanceMethod ({ cls := "GuardRoster$Roster", name := "now", desc := "()I" } : Jvm.MethodName) ∈ gw := gw_t1 199 rfl rfl
theorem lk202 : Cond.methodLink "GuardRosterLaw" (217 : Nat) ({ cls := "GuardRoster", name := "openPlacesBySlots", desc := "()I" } : Jvm.MethodName) ∈ gw := gw_t1 202 rfl rfl
theorem lk203 : Cond.instanceMethod ({ cls := "GuardRoster", name := "openPlacesBySlots", desc := "()I" } : Jvm.MethodName) ∈ gw := gw_t1 203 rfl rfl
theorem lk206 : Cond.methodLink "GuardRoster" (173 : Nat) ({ cls := "GuardRoster$Roster", name := "now", desc := "()I" } : Jvm.MethodName) ∈ gw := gw_t1 206 rfl rfl
theorem lk207 : Cond.methodLink "GuardRoster" (167 : Nat) ({ cls := "GuardRoster$Roster", name := "openGatesIn", desc := "(I)I" } : Jvm.MethodName) ∈ gw := gw_t1 207 rfl rfl
theorem lk208 : Cond.methodLink "GuardRosterLaw" (254 : Nat) ({ cls := "GuardRoster", name := "rations", desc := "()I" } : Jvm.MethodName) ∈ gw := gw_t1 208 rfl rfl
theorem lk209 : Cond.instanceMethod ({ cls := "GuardRoster", name := "rations", desc := "()I" } : Jvm.MethodName) ∈ gw := gw_t1 209 rfl rfl
theorem lk212 : Cond.methodLink "GuardRoster" (223 : Nat) ({ cls := "GuardRoster$Roster", name := "rationsLeft", desc := "()I" } : Jvm.MethodName) ∈ gw := gw_t1 212 rfl rfl
theorem lk213 : Cond.instanceMethod ({ cls := "GuardRoster$Roster", name := "rationsLeft", desc := "()I" } : Jvm.MethodName) ∈ gw := gw_t1 213 rfl rfl
theorem lk216 : Cond.methodLink "GuardRosterLaw" (258 : Nat) ({ cls := "GuardRoster", name := "currentSlot", desc := "()I" } : Jvm.MethodName) ∈ gw := gw_t1 216 rfl rfl
theorem lk217 : Cond.instanceMethod ({ cls := "GuardRoster", name := "currentSlot", desc := "()I" } : Jvm.MethodName) ∈ gw := gw_t1 217 rfl rfl
theorem lk220 : Cond.methodLink "GuardRosterLaw" (262 : Nat) ({ cls := "GuardRoster", name := "missingRations", desc := "()I" } : Jvm.MethodName) ∈ gw := gw_t1 220 rfl rfl
theorem lk221 : Cond.instanceMethod ({ cls := "GuardRoster", name := "missingRations", desc := "()I" } : Jvm.MethodName) ∈ gw := gw_t1 221 rfl rfl
theorem lk224 : Cond.methodLink "GuardRoster" (232 : Nat) ({ cls := "java/lang/Math", name := "max", desc := "(II)I" } : Jvm.MethodName) ∈ gw := gw_t1 224 rfl rfl
theorem lk225 : Cond.methodLink "GuardRosterLaw" (289 : Nat) ({ cls := "GuardRoster", name := "isConsistent", desc := "()Z" } : Jvm.MethodName) ∈ gw := gw_t1 225 rfl rfl
theorem lk226 : Cond.instanceMethod ({ cls := "GuardRoster", name := "isConsistent", desc := "()Z" } : Jvm.MethodName) ∈ gw := gw_t1 226 rfl rfl
theorem lk229 : Cond.methodLink "GuardRoster" (269 : Nat) ({ cls := "GuardRoster", name := "openPlaces", desc := "()I" } : Jvm.MethodName) ∈ gw := gw_t1 229 rfl rfl
theorem lk230 : Cond.methodLink "GuardRoster" (272 : Nat) ({ cls := "GuardRoster", name := "openPlacesBySlots", desc := "()I" } : Jvm.MethodName) ∈ gw := gw_t1 230 rfl rfl
theorem lk231 : Cond.methodLink "GuardRoster" (275 : Nat) ({ cls := "GuardRoster", name := "mostDuties", desc := "(I)I" } : Jvm.MethodName) ∈ gw := gw_t1 231 rfl rfl
theorem lk232 : Cond.instanceMethod ({ cls := "GuardRoster", name := "mostDuties", desc := "(I)I" } : Jvm.MethodName) ∈ gw := gw_t1 232 rfl rfl
theorem lk235 : Cond.methodLink "GuardRoster" (164 : Nat) ({ cls := "GuardRoster", name := "throwUnlessSlot", desc := "(I)V" } : Jvm.MethodName) ∈ gw := gw_t1 235 rfl rfl
theorem lk237 : Cond.instanceMethod ({ cls := "GuardRoster", name := "throwUnlessSlot", desc := "(I)V" } : Jvm.MethodName) ∈ gw := gw_t1 237 rfl rfl
theorem lk239 : Cond.methodLink "GuardRoster" (114 : Nat) ({ cls := "GuardRoster$Roster", name := "isSlot", desc := "(I)Z" } : Jvm.MethodName) ∈ gw := gw_t1 239 rfl rfl
theorem lk240 : Cond.classLink "GuardRoster" (84 : Nat) "java/lang/IndexOutOfBoundsException" ∈ gw := gw_t2 0 rfl rfl
theorem lk241 : Cond.instantiable "java/lang/IndexOutOfBoundsException" (6 : Nat) ∈ gw := gw_t2 1 rfl rfl
theorem lk263 : Cond.instanceMethod ({ cls := "java/lang/Throwable", name := "<init>", desc := "()V" } : Jvm.MethodName) ∈ gw := gw_t2 23 rfl rfl
theorem lk265 : Cond.methodLink "java/lang/Throwable" (1 : Nat) ({ cls := "java/lang/Object", name := "<init>", desc := "()V" } : Jvm.MethodName) ∈ gw := gw_t2 25 rfl rfl
theorem lk266 : Cond.fieldLink "java/lang/Throwable" (13 : Nat) "java/lang/Throwable" "UNASSIGNED_STACK" "[Ljava/lang/StackTraceElement;" ∈ gw := gw_t2 26 rfl rfl
theorem lk268 : Cond.fieldLink "java/lang/Throwable" (20 : Nat) "java/lang/Throwable" "SUPPRESSED_SENTINEL" "Ljava/util/List;" ∈ gw := gw_t2 28 rfl rfl
theorem lk270 : Cond.methodLink "java/lang/Throwable" (27 : Nat) ({ cls := "java/lang/Throwable", name := "fillInStackTrace", desc := "()Ljava/lang/Throwable;" } : Jvm.MethodName) ∈ gw := gw_t2 30 rfl rfl
theorem lk271 : Cond.instanceMethod ({ cls := "java/lang/Throwable", name := "fillInStackTrace", desc := "()Ljava/lang/Throwable;" } : Jvm.MethodName) ∈ gw := gw_t2 31 rfl rfl
theorem lk280 : Cond.methodLink "java/lang/Throwable" (202 : Nat) ({ cls := "java/lang/Throwable", name := "fillInStackTrace", desc := "(I)Ljava/lang/Throwable;" } : Jvm.MethodName) ∈ gw := gw_t2 40 rfl rfl
theorem lk282 : Cond.instanceMethod ({ cls := "java/lang/Throwable", name := "fillInStackTrace", desc := "(I)Ljava/lang/Throwable;" } : Jvm.MethodName) ∈ gw := gw_t2 42 rfl rfl
theorem lk283 : Cond.instantiable "java/lang/Throwable" (6 : Nat) ∈ gw := gw_t2 43 rfl rfl
theorem lk286 : Cond.methodLink "GuardRoster" (88 : Nat) ({ cls := "java/lang/IndexOutOfBoundsException", name := "<init>", desc := "(Ljava/lang/String;)V" } : Jvm.MethodName) ∈ gw := gw_t2 46 rfl rfl
theorem lk287 : Cond.instanceMethod ({ cls := "java/lang/IndexOutOfBoundsException", name := "<init>", desc := "(Ljava/lang/String;)V" } : Jvm.MethodName) ∈ gw := gw_t2 47 rfl rfl
theorem lk289 : Cond.methodLink "java/lang/IndexOutOfBoundsException" (7 : Nat) ({ cls := "java/lang/RuntimeException", name := "<init>", desc := "(Ljava/lang/String;)V" } : Jvm.MethodName) ∈ gw := gw_t2 49 rfl rfl
theorem lk290 : Cond.instanceMethod ({ cls := "java/lang/RuntimeException", name := "<init>", desc := "(Ljava/lang/String;)V" } : Jvm.MethodName) ∈ gw := gw_t2 50 rfl rfl
theorem lk292 : Cond.methodLink "java/lang/RuntimeException" (7 : Nat) ({ cls := "java/lang/Exception", name := "<init>", desc := "(Ljava/lang/String;)V" } : Jvm.MethodName) ∈ gw := gw_t2 52 rfl rfl
theorem lk293 : Cond.instanceMethod ({ cls := "java/lang/Exception", name := "<init>", desc := "(Ljava/lang/String;)V" } : Jvm.MethodName) ∈ gw := gw_t2 53 rfl rfl
theorem lk295 : Cond.methodLink "java/lang/Exception" (7 : Nat) ({ cls := "java/lang/Throwable", name := "<init>", desc := "(Ljava/lang/String;)V" } : Jvm.MethodName) ∈ gw := gw_t2 55 rfl rfl
theorem lk296 : Cond.instanceMethod ({ cls := "java/lang/Throwable", name := "<init>", desc := "(Ljava/lang/String;)V" } : Jvm.MethodName) ∈ gw := gw_t2 56 rfl rfl
theorem lk298 : Cond.fieldLink "java/lang/Throwable" (198 : Nat) "java/lang/Throwable" "backtrace" "Ljava/lang/Object;" ∈ gw := gw_t2 58 rfl rfl
theorem lk299 : Cond.fieldLink "java/lang/Throwable" (31 : Nat) "java/lang/Throwable" "detailMessage" "Ljava/lang/String;" ∈ gw := gw_t2 59 rfl rfl
theorem lk300 : Cond.fieldLink "java/lang/Throwable" (7 : Nat) "java/lang/Throwable" "cause" "Ljava/lang/Throwable;" ∈ gw := gw_t2 60 rfl rfl
theorem lk301 : Cond.fieldLink "java/lang/Throwable" (17 : Nat) "java/lang/Throwable" "stackTrace" "[Ljava/lang/StackTraceElement;" ∈ gw := gw_t2 61 rfl rfl
theorem lk302 : Cond.fieldLink "java/lang/Throwable" (24 : Nat) "java/lang/Throwable" "suppressedExceptions" "Ljava/util/List;" ∈ gw := gw_t2 62 rfl rfl
theorem lk311 : Cond.arrayClass Jvm.ClassFile.FieldType.byte ∈ gw := gw_t2 71 rfl rfl
theorem lk312 : Cond.methodLink "GuardRoster" (176 : Nat) ({ cls := "GuardRoster$SlotPlan", name := "prepare", desc := "(LGuardRoster$Roster;I)V" } : Jvm.MethodName) ∈ gw := gw_t2 72 rfl rfl
theorem lk313 : Cond.instanceMethod ({ cls := "GuardRoster$SlotPlan", name := "prepare", desc := "(LGuardRoster$Roster;I)V" } : Jvm.MethodName) ∈ gw := gw_t2 73 rfl rfl
theorem lk316 : Cond.methodLink "GuardRoster$SlotPlan" (21 : Nat) ({ cls := "GuardRoster$Roster", name := "isGate", desc := "(I)Z" } : Jvm.MethodName) ∈ gw := gw_t2 76 rfl rfl
theorem lk317 : Cond.methodLink "GuardRoster$SlotPlan" (27 : Nat) ({ cls := "GuardRoster$SlotPlan", name := "guardsThatFit", desc := "(LGuardRoster$Roster;II)I" } : Jvm.MethodName) ∈ gw := gw_t2 77 rfl rfl
theorem lk318 : Cond.static ({ cls := "GuardRoster$SlotPlan", name := "guardsThatFit", desc := "(LGuardRoster$Roster;II)I" } : Jvm.MethodName) ∈ gw := gw_t2 78 rfl rfl
theorem lk320 : Cond.methodLink "GuardRoster$SlotPlan" (31 : Nat) ({ cls := "GuardRoster$Roster", name := "guards", desc := "()I" } : Jvm.MethodName) ∈ gw := gw_t2 80 rfl rfl
theorem lk321 : Cond.methodLink "GuardRoster$SlotPlan" (35 : Nat) ({ cls := "GuardRoster$Roster", name := "reasonAgainst", desc := "(III)I" } : Jvm.MethodName) ∈ gw := gw_t2 81 rfl rfl
theorem lk322 : Cond.instanceMethod ({ cls := "GuardRoster$Roster", name := "reasonAgainst", desc := "(III)I" } : Jvm.MethodName) ∈ gw := gw_t2 82 rfl rfl
theorem lk325 : Cond.methodLink "GuardRoster$Roster" (57 : Nat) ({ cls := "GuardRoster$Roster", name := "rankOf", desc := "(I)I" } : Jvm.MethodName) ∈ gw := gw_t2 85 rfl rfl
theorem lk326 : Cond.instanceMethod ({ cls := "GuardRoster$Roster", name := "rankOf", desc := "(I)I" } : Jvm.MethodName) ∈ gw := gw_t2 86 rfl rfl
theorem lk329 : Cond.methodLink "GuardRoster$Roster" (28 : Nat) ({ cls := "GuardRoster$Roster", name := "isGuard", desc := "(I)Z" } : Jvm.MethodName) ∈ gw := gw_t2 89 rfl rfl
theorem lk330 : Cond.instanceMethod ({ cls := "GuardRoster$Roster", name := "isGuard", desc := "(I)Z" } : Jvm.MethodName) ∈ gw := gw_t2 90 rfl rfl
theorem lk333 : Cond.methodLink "GuardRoster$Roster" (60 : Nat) ({ cls := "GuardRoster$Roster", name := "rankNeededAt", desc := "(I)I" } : Jvm.MethodName) ∈ gw := gw_t2 93 rfl rfl
theorem lk334 : Cond.instanceMethod ({ cls := "GuardRoster$Roster", name := "rankNeededAt", desc := "(I)I" } : Jvm.MethodName) ∈ gw := gw_t2 94 rfl rfl
theorem lk337 : Cond.methodLink "GuardRoster$Roster" (63 : Nat) ({ cls := "GuardRoster$Roster", name := "hasLeave", desc := "(II)Z" } : Jvm.MethodName) ∈ gw := gw_t2 97 rfl rfl
theorem lk338 : Cond.instanceMethod ({ cls := "GuardRoster$Roster", name := "hasLeave", desc := "(II)Z" } : Jvm.MethodName) ∈ gw := gw_t2 98 rfl rfl
theorem lk341 : Cond.methodLink "GuardRoster$Roster" (34 : Nat) ({ cls := "GuardRoster$Roster", name := "gateHeld", desc := "(II)I" } : Jvm.MethodName) ∈ gw := gw_t2 101 rfl rfl
theorem lk342 : Cond.instanceMethod ({ cls := "GuardRoster$Roster", name := "gateHeld", desc := "(II)I" } : Jvm.MethodName) ∈ gw := gw_t2 102 rfl rfl
theorem lk345 : Cond.methodLink "GuardRoster" (180 : Nat) ({ cls := "GuardRoster$SlotPlan", name := "countByPaths", desc := "()I" } : Jvm.MethodName) ∈ gw := gw_t2 105 rfl rfl
theorem lk346 : Cond.instanceMethod ({ cls := "GuardRoster$SlotPlan", name := "countByPaths", desc := "()I" } : Jvm.MethodName) ∈ gw := gw_t2 106 rfl rfl
theorem lk349 : Cond.methodLink "GuardRoster$SlotPlan" (43 : Nat) ({ cls := "GuardRoster$SlotPlan", name := "finds", desc := "(LGuardRoster$SlotPlan;II)Z" } : Jvm.MethodName) ∈ gw := gw_t2 109 rfl rfl
theorem lk350 : Cond.static ({ cls := "GuardRoster$SlotPlan", name := "finds", desc := "(LGuardRoster$SlotPlan;II)Z" } : Jvm.MethodName) ∈ gw := gw_t2 110 rfl rfl
theorem lk352 : Cond.methodLink "GuardRoster" (278 : Nat) ({ cls := "GuardRoster", name := "mostDutiesBySets", desc := "(I)I" } : Jvm.MethodName) ∈ gw := gw_t2 112 rfl rfl
theorem lk353 : Cond.instanceMethod ({ cls := "GuardRoster", name := "mostDutiesBySets", desc := "(I)I" } : Jvm.MethodName) ∈ gw := gw_t2 113 rfl rfl
theorem lk356 : Cond.methodLink "GuardRoster" (183 : Nat) ({ cls := "GuardRoster$SlotPlan", name := "countBySets", desc := "()I" } : Jvm.MethodName) ∈ gw := gw_t2 116 rfl rfl
theorem lk357 : Cond.instanceMethod ({ cls := "GuardRoster$SlotPlan", name := "countBySets", desc := "()I" } : Jvm.MethodName) ∈ gw := gw_t2 117 rfl rfl
theorem lk360 : Cond.methodLink "GuardRoster$SlotPlan" (47 : Nat) ({ cls := "java/lang/Integer", name := "numberOfTrailingZeros", desc := "(I)I" } : Jvm.MethodName) ∈ gw := gw_t2 120 rfl rfl
theorem lk361 : Cond.static ({ cls := "java/lang/Integer", name := "numberOfTrailingZeros", desc := "(I)I" } : Jvm.MethodName) ∈ gw := gw_t2 121 rfl rfl
theorem lk363 : Cond.constant "java/lang/Integer" (264 : Nat) (65536 : Int32) ∈ gw := gw_t2 123 rfl rfl
theorem lk364 : Cond.methodLink "GuardRoster$SlotPlan" (53 : Nat) ({ cls := "java/lang/Integer", name := "bitCount", desc := "(I)I" } : Jvm.MethodName) ∈ gw := gw_t2 124 rfl rfl
theorem lk365 : Cond.static ({ cls := "java/lang/Integer", name := "bitCount", desc := "(I)I" } : Jvm.MethodName) ∈ gw := gw_t2 125 rfl rfl
theorem lk367 : Cond.constant "java/lang/Integer" (265 : Nat) (1431655765 : Int32) ∈ gw := gw_t2 127 rfl rfl
theorem lk368 : Cond.constant "java/lang/Integer" (266 : Nat) (858993459 : Int32) ∈ gw := gw_t2 128 rfl rfl
theorem lk369 : Cond.constant "java/lang/Integer" (267 : Nat) (252645135 : Int32) ∈ gw := gw_t2 129 rfl rfl
theorem lk370 : Cond.methodLink "GuardRoster$SlotPlan" (56 : Nat) ({ cls := "java/lang/Math", name := "max", desc := "(II)I" } : Jvm.MethodName) ∈ gw := gw_t2 130 rfl rfl
theorem lk371 : Cond.methodLink "GuardRoster" (281 : Nat) ({ cls := "GuardRoster$Roster", name := "allRest", desc := "()Z" } : Jvm.MethodName) ∈ gw := gw_t2 131 rfl rfl
theorem lk372 : Cond.instanceMethod ({ cls := "GuardRoster$Roster", name := "allRest", desc := "()Z" } : Jvm.MethodName) ∈ gw := gw_t2 132 rfl rfl
theorem lk375 : Cond.methodLink "GuardRoster$Roster" (67 : Nat) ({ cls := "GuardRoster$Roster", name := "guards", desc := "()I" } : Jvm.MethodName) ∈ gw := gw_t2 135 rfl rfl
theorem lk376 : Cond.methodLink "GuardRosterLaw" (310 : Nat) ({ cls := "GuardRoster", name := "undoCount", desc := "()I" } : Jvm.MethodName) ∈ gw := gw_t2 136 rfl rfl
theorem lk377 : Cond.instanceMethod ({ cls := "GuardRoster", name := "undoCount", desc := "()I" } : Jvm.MethodName) ∈ gw := gw_t2 137 rfl rfl
theorem lk380 : Cond.methodLink "GuardRoster" (335 : Nat) ({ cls := "GuardRoster$History", name := "size", desc := "()I" } : Jvm.MethodName) ∈ gw := gw_t2 140 rfl rfl
theorem lk381 : Cond.instanceMethod ({ cls := "GuardRoster$History", name := "size", desc := "()I" } : Jvm.MethodName) ∈ gw := gw_t2 141 rfl rfl
theorem lk384 : Cond.methodLink "GuardRosterLaw" (314 : Nat) ({ cls := "GuardRoster", name := "save", desc := "()I" } : Jvm.MethodName) ∈ gw := gw_t2 144 rfl rfl
theorem lk385 : Cond.instanceMethod ({ cls := "GuardRoster", name := "save", desc := "()I" } : Jvm.MethodName) ∈ gw := gw_t2 145 rfl rfl
theorem lk388 : Cond.methodLink "GuardRoster" (343 : Nat) ({ cls := "GuardRoster$Roster", name := "copyTo", desc := "([I)V" } : Jvm.MethodName) ∈ gw := gw_t2 148 rfl rfl
theorem lk389 : Cond.instanceMethod ({ cls := "GuardRoster$Roster", name := "copyTo", desc := "([I)V" } : Jvm.MethodName) ∈ gw := gw_t2 149 rfl rfl
theorem lk392 : Cond.methodLink "GuardRoster$Roster" (18 : Nat) ({ cls := "java/lang/System", name := "arraycopy", desc := "(Ljava/lang/Object;ILjava/lang/Object;II)V" } : Jvm.MethodName) ∈ gw := gw_t2 152 rfl rfl
theorem lk393 : Cond.static ({ cls := "java/lang/System", name := "arraycopy", desc := "(Ljava/lang/Object;ILjava/lang/Object;II)V" } : Jvm.MethodName) ∈ gw := gw_t2 153 rfl rfl
theorem lk395 : Cond.methodLink "GuardRosterLaw" (150 : Nat) ({ cls := "GuardRosterLaw", name := "addGate", desc := "(LGuardRoster;I[J)I" } : Jvm.MethodName) ∈ gw := gw_t2 155 rfl rfl
theorem lk396 : Cond.static ({ cls := "GuardRosterLaw", name := "addGate", desc := "(LGuardRoster;I[J)I" } : Jvm.MethodName) ∈ gw := gw_t2 156 rfl rfl
theorem lk398 : Cond.classLink "GuardRosterLaw" (13 : Nat) "java/lang/IllegalArgumentException" ∈ gw := gw_t2 158 rfl rfl
theorem lk399 : Cond.classLink "GuardRosterLaw" (15 : Nat) "java/lang/IllegalStateException" ∈ gw := gw_t2 159 rfl rfl
theorem lk400 : Cond.methodLink "GuardRosterLaw" (7 : Nat) ({ cls := "GuardRoster", name := "addGate", desc := "(I)I" } : Jvm.MethodName) ∈ gw := gw_t2 160 rfl rfl
theorem lk401 : Cond.instanceMethod ({ cls := "GuardRoster", name := "addGate", desc := "(I)I" } : Jvm.MethodName) ∈ gw := gw_t2 161 rfl rfl
theorem lk404 : Cond.methodLink "GuardRoster" (52 : Nat) ({ cls := "GuardRoster", name := "problemOfGate", desc := "(I)I" } : Jvm.MethodName) ∈ gw := gw_t2 164 rfl rfl
theorem lk406 : Cond.instanceMethod ({ cls := "GuardRoster", name := "problemOfGate", desc := "(I)I" } : Jvm.MethodName) ∈ gw := gw_t2 166 rfl rfl
theorem lk408 : Cond.methodLink "GuardRoster" (373 : Nat) ({ cls := "GuardRoster", name := "isRank", desc := "(I)Z" } : Jvm.MethodName) ∈ gw := gw_t2 168 rfl rfl
theorem lk409 : Cond.static ({ cls := "GuardRoster", name := "isRank", desc := "(I)Z" } : Jvm.MethodName) ∈ gw := gw_t2 169 rfl rfl
theorem lk411 : Cond.methodLink "GuardRoster" (56 : Nat) ({ cls := "GuardRoster", name := "throwFor", desc := "(I)V" } : Jvm.MethodName) ∈ gw := gw_t2 171 rfl rfl
theorem lk412 : Cond.static ({ cls := "GuardRoster", name := "throwFor", desc := "(I)V" } : Jvm.MethodName) ∈ gw := gw_t2 172 rfl rfl
theorem lk415 : Cond.classLink "GuardRoster" (306 : Nat) "java/lang/IllegalArgumentException" ∈ gw := gw_t2 175 rfl rfl
theorem lk416 : Cond.instantiable "java/lang/IllegalArgumentException" (6 : Nat) ∈ gw := gw_t2 176 rfl rfl
theorem lk425 : Cond.methodLink "GuardRoster" (310 : Nat) ({ cls := "java/lang/IllegalArgumentException", name := "<init>", desc := "(Ljava/lang/String;)V" } : Jvm.MethodName) ∈ gw := gw_t2 185 rfl rfl
theorem lk426 : Cond.instanceMethod ({ cls := "java/lang/IllegalArgumentException", name := "<init>", desc := "(Ljava/lang/String;)V" } : Jvm.MethodName) ∈ gw := gw_t2 186 rfl rfl
theorem lk428 : Cond.methodLink "java/lang/IllegalArgumentException" (7 : Nat) ({ cls := "java/lang/RuntimeException", name := "<init>", desc := "(Ljava/lang/String;)V" } : Jvm.MethodName) ∈ gw := gw_t2 188 rfl rfl
theorem lk431 : Cond.classLink "GuardRoster" (288 : Nat) "java/lang/IllegalStateException" ∈ gw := gw_t2 191 rfl rfl
theorem lk432 : Cond.instantiable "java/lang/IllegalStateException" (6 : Nat) ∈ gw := gw_t2 192 rfl rfl
theorem lk441 : Cond.methodLink "GuardRoster" (292 : Nat) ({ cls := "java/lang/IllegalStateException", name := "<init>", desc := "(Ljava/lang/String;)V" } : Jvm.MethodName) ∈ gw := gw_t2 201 rfl rfl
theorem lk442 : Cond.instanceMethod ({ cls := "java/lang/IllegalStateException", name := "<init>", desc := "(Ljava/lang/String;)V" } : Jvm.MethodName) ∈ gw := gw_t2 202 rfl rfl
theorem lk444 : Cond.methodLink "java/lang/IllegalStateException" (7 : Nat) ({ cls := "java/lang/RuntimeException", name := "<init>", desc := "(Ljava/lang/String;)V" } : Jvm.MethodName) ∈ gw := gw_t2 204 rfl rfl
theorem lk447 : Cond.classLink "GuardRoster" (147 : Nat) "java/util/NoSuchElementException" ∈ gw := gw_t2 207 rfl rfl
theorem lk448 : Cond.instantiable "java/util/NoSuchElementException" (6 : Nat) ∈ gw := gw_t2 208 rfl rfl
theorem lk457 : Cond.methodLink "GuardRoster" (151 : Nat) ({ cls := "java/util/NoSuchElementException", name := "<init>", desc := "(Ljava/lang/String;)V" } : Jvm.MethodName) ∈ gw := gw_t2 217 rfl rfl
theorem lk458 : Cond.instanceMethod ({ cls := "java/util/NoSuchElementException", name := "<init>", desc := "(Ljava/lang/String;)V" } : Jvm.MethodName) ∈ gw := gw_t2 218 rfl rfl
theorem lk460 : Cond.methodLink "java/util/NoSuchElementException" (13 : Nat) ({ cls := "java/lang/RuntimeException", name := "<init>", desc := "(Ljava/lang/String;)V" } : Jvm.MethodName) ∈ gw := gw_t2 220 rfl rfl
theorem lk463 : Cond.classLink "GuardRoster" (323 : Nat) "java/lang/UnsupportedOperationException" ∈ gw := gw_t2 223 rfl rfl
theorem lk464 : Cond.instantiable "java/lang/UnsupportedOperationException" (6 : Nat) ∈ gw := gw_t2 224 rfl rfl
theorem lk473 : Cond.methodLink "GuardRoster" (327 : Nat) ({ cls := "java/lang/UnsupportedOperationException", name := "<init>", desc := "(Ljava/lang/String;)V" } : Jvm.MethodName) ∈ gw := gw_t2 233 rfl rfl
theorem lk474 : Cond.instanceMethod ({ cls := "java/lang/UnsupportedOperationException", name := "<init>", desc := "(Ljava/lang/String;)V" } : Jvm.MethodName) ∈ gw := gw_t2 234 rfl rfl
theorem lk476 : Cond.methodLink "java/lang/UnsupportedOperationException" (7 : Nat) ({ cls := "java/lang/RuntimeException", name := "<init>", desc := "(Ljava/lang/String;)V" } : Jvm.MethodName) ∈ gw := gw_t2 236 rfl rfl
theorem lk479 : Cond.methodLink "GuardRoster" (60 : Nat) ({ cls := "GuardRoster$History", name := "keep", desc := "(LGuardRoster$Roster;)V" } : Jvm.MethodName) ∈ gw := gw_t2 239 rfl rfl
theorem lk480 : Cond.instanceMethod ({ cls := "GuardRoster$History", name := "keep", desc := "(LGuardRoster$Roster;)V" } : Jvm.MethodName) ∈ gw := gw_t3 0 rfl rfl
theorem lk483 : Cond.methodLink "GuardRoster$History" (22 : Nat) ({ cls := "GuardRoster$History", name := "begin", desc := "(LGuardRoster$Roster;)V" } : Jvm.MethodName) ∈ gw := gw_t3 3 rfl rfl
theorem lk484 : Cond.instanceMethod ({ cls := "GuardRoster$History", name := "begin", desc := "(LGuardRoster$Roster;)V" } : Jvm.MethodName) ∈ gw := gw_t3 4 rfl rfl
theorem lk487 : Cond.methodLink "GuardRoster$History" (32 : Nat) ({ cls := "GuardRoster$Roster", name := "copyTo", desc := "([I)V" } : Jvm.MethodName) ∈ gw := gw_t3 7 rfl rfl
theorem lk488 : Cond.methodLink "GuardRoster$History" (26 : Nat) ({ cls := "GuardRoster$History", name := "end", desc := "()V" } : Jvm.MethodName) ∈ gw := gw_t3 8 rfl rfl
theorem lk489 : Cond.instanceMethod ({ cls := "GuardRoster$History", name := "end", desc := "()V" } : Jvm.MethodName) ∈ gw := gw_t3 9 rfl rfl
theorem lk492 : Cond.methodLink "GuardRoster$History" (36 : Nat) ({ cls := "java/lang/Math", name := "min", desc := "(II)I" } : Jvm.MethodName) ∈ gw := gw_t3 12 rfl rfl
theorem lk493 : Cond.static ({ cls := "java/lang/Math", name := "min", desc := "(II)I" } : Jvm.MethodName) ∈ gw := gw_t3 13 rfl rfl
theorem lk495 : Cond.methodLink "GuardRoster" (64 : Nat) ({ cls := "GuardRoster$Roster", name := "appendGate", desc := "(I)I" } : Jvm.MethodName) ∈ gw := gw_t3 15 rfl rfl
theorem lk496 : Cond.instanceMethod ({ cls := "GuardRoster$Roster", name := "appendGate", desc := "(I)I" } : Jvm.MethodName) ∈ gw := gw_t3 16 rfl rfl
theorem lk499 : Cond.methodLink "GuardRosterLaw" (159 : Nat) ({ cls := "GuardRosterLaw", name := "addGuard", desc := "(LGuardRoster;I[J)I" } : Jvm.MethodName) ∈ gw := gw_t3 19 rfl rfl
theorem lk500 : Cond.static ({ cls := "GuardRosterLaw", name := "addGuard", desc := "(LGuardRoster;I[J)I" } : Jvm.MethodName) ∈ gw := gw_t3 20 rfl rfl
theorem lk502 : Cond.methodLink "GuardRosterLaw" (17 : Nat) ({ cls := "GuardRoster", name := "addGuard", desc := "(I)I" } : Jvm.MethodName) ∈ gw := gw_t3 22 rfl rfl
theorem lk503 : Cond.instanceMethod ({ cls := "GuardRoster", name := "addGuard", desc := "(I)I" } : Jvm.MethodName) ∈ gw := gw_t3 23 rfl rfl
theorem lk506 : Cond.methodLink "GuardRoster" (67 : Nat) ({ cls := "GuardRoster", name := "problemOfGuard", desc := "(I)I" } : Jvm.MethodName) ∈ gw := gw_t3 26 rfl rfl
theorem lk508 : Cond.instanceMethod ({ cls := "GuardRoster", name := "problemOfGuard", desc := "(I)I" } : Jvm.MethodName) ∈ gw := gw_t3 28 rfl rfl
theorem lk510 : Cond.methodLink "GuardRoster" (70 : Nat) ({ cls := "GuardRoster$Roster", name := "appendGuard", desc := "(I)I" } : Jvm.MethodName) ∈ gw := gw_t3 30 rfl rfl
theorem lk511 : Cond.instanceMethod ({ cls := "GuardRoster$Roster", name := "appendGuard", desc := "(I)I" } : Jvm.MethodName) ∈ gw := gw_t3 31 rfl rfl
theorem lk514 : Cond.methodLink "GuardRosterLaw" (170 : Nat) ({ cls := "GuardRosterLaw", name := "neededRank", desc := "(LGuardRoster;I[J)I" } : Jvm.MethodName) ∈ gw := gw_t3 34 rfl rfl
theorem lk515 : Cond.static ({ cls := "GuardRosterLaw", name := "neededRank", desc := "(LGuardRoster;I[J)I" } : Jvm.MethodName) ∈ gw := gw_t3 35 rfl rfl
theorem lk517 : Cond.classLink "GuardRosterLaw" (23 : Nat) "java/lang/IndexOutOfBoundsException" ∈ gw := gw_t3 37 rfl rfl
theorem lk518 : Cond.instantiable "java/lang/ArrayIndexOutOfBoundsException" (6 : Nat) ∈ gw := gw_t3 38 rfl rfl
theorem lk519 : Cond.instanceMethod ({ cls := "java/lang/ArrayIndexOutOfBoundsException", name := "<init>", desc := "(Ljava/lang/String;)V" } : Jvm.MethodName) ∈ gw := gw_t3 39 rfl rfl
theorem lk521 : Cond.methodLink "java/lang/ArrayIndexOutOfBoundsException" (7 : Nat) ({ cls := "java/lang/IndexOutOfBoundsException", name := "<init>", desc := "(Ljava/lang/String;)V" } : Jvm.MethodName) ∈ gw := gw_t3 41 rfl rfl
theorem lk533 : Cond.instantiable "java/lang/String" (4 : Nat) ∈ gw := gw_t3 53 rfl rfl
theorem lk538 : Cond.methodLink "GuardRosterLaw" (20 : Nat) ({ cls := "GuardRoster", name := "neededRank", desc := "(I)I" } : Jvm.MethodName) ∈ gw := gw_t3 58 rfl rfl
theorem lk539 : Cond.instanceMethod ({ cls := "GuardRoster", name := "neededRank", desc := "(I)I" } : Jvm.MethodName) ∈ gw := gw_t3 59 rfl rfl
theorem lk542 : Cond.methodLink "GuardRoster" (80 : Nat) ({ cls := "GuardRoster$Roster", name := "isGate", desc := "(I)Z" } : Jvm.MethodName) ∈ gw := gw_t3 62 rfl rfl
theorem lk544 : Cond.methodLink "GuardRoster" (91 : Nat) ({ cls := "GuardRoster$Roster", name := "rankNeededAt", desc := "(I)I" } : Jvm.MethodName) ∈ gw := gw_t3 64 rfl rfl
theorem lk545 : Cond.methodLink "GuardRosterLaw" (173 : Nat) ({ cls := "GuardRosterLaw", name := "rank", desc := "(LGuardRoster;I[J)I" } : Jvm.MethodName) ∈ gw := gw_t3 65 rfl rfl
theorem lk546 : Cond.static ({ cls := "GuardRosterLaw", name := "rank", desc := "(LGuardRoster;I[J)I" } : Jvm.MethodName) ∈ gw := gw_t3 66 rfl rfl
theorem lk548 : Cond.methodLink "GuardRosterLaw" (25 : Nat) ({ cls := "GuardRoster", name := "rank", desc := "(I)I" } : Jvm.MethodName) ∈ gw := gw_t3 68 rfl rfl
theorem lk549 : Cond.instanceMethod ({ cls := "GuardRoster", name := "rank", desc := "(I)I" } : Jvm.MethodName) ∈ gw := gw_t3 69 rfl rfl
theorem lk552 : Cond.methodLink "GuardRoster" (94 : Nat) ({ cls := "GuardRoster", name := "throwUnlessGuard", desc := "(I)V" } : Jvm.MethodName) ∈ gw := gw_t3 72 rfl rfl
theorem lk554 : Cond.instanceMethod ({ cls := "GuardRoster", name := "throwUnlessGuard", desc := "(I)V" } : Jvm.MethodName) ∈ gw := gw_t3 74 rfl rfl
theorem lk556 : Cond.methodLink "GuardRoster" (117 : Nat) ({ cls := "GuardRoster$Roster", name := "isGuard", desc := "(I)Z" } : Jvm.MethodName) ∈ gw := gw_t3 76 rfl rfl
theorem lk558 : Cond.methodLink "GuardRoster" (97 : Nat) ({ cls := "GuardRoster$Roster", name := "rankOf", desc := "(I)I" } : Jvm.MethodName) ∈ gw := gw_t3 78 rfl rfl
theorem lk559 : Cond.methodLink "GuardRosterLaw" (176 : Nat) ({ cls := "GuardRosterLaw", name := "faints", desc := "(LGuardRoster;I[J)I" } : Jvm.MethodName) ∈ gw := gw_t3 79 rfl rfl
theorem lk560 : Cond.static ({ cls := "GuardRosterLaw", name := "faints", desc := "(LGuardRoster;I[J)I" } : Jvm.MethodName) ∈ gw := gw_t3 80 rfl rfl
theorem lk562 : Cond.methodLink "GuardRosterLaw" (28 : Nat) ({ cls := "GuardRoster", name := "faints", desc := "(I)I" } : Jvm.MethodName) ∈ gw := gw_t3 82 rfl rfl
theorem lk563 : Cond.instanceMethod ({ cls := "GuardRoster", name := "faints", desc := "(I)I" } : Jvm.MethodName) ∈ gw := gw_t3 83 rfl rfl
theorem lk566 : Cond.methodLink "GuardRoster" (100 : Nat) ({ cls := "GuardRoster$Roster", name := "faintsOf", desc := "(I)I" } : Jvm.MethodName) ∈ gw := gw_t3 86 rfl rfl
theorem lk567 : Cond.instanceMethod ({ cls := "GuardRoster$Roster", name := "faintsOf", desc := "(I)I" } : Jvm.MethodName) ∈ gw := gw_t3 87 rfl rfl
theorem lk570 : Cond.methodLink "GuardRosterLaw" (179 : Nat) ({ cls := "GuardRosterLaw", name := "assign", desc := "(LGuardRoster;III[J)I" } : Jvm.MethodName) ∈ gw := gw_t3 90 rfl rfl
theorem lk571 : Cond.static ({ cls := "GuardRosterLaw", name := "assign", desc := "(LGuardRoster;III[J)I" } : Jvm.MethodName) ∈ gw := gw_t3 91 rfl rfl
theorem lk573 : Cond.classLink "GuardRosterLaw" (35 : Nat) "java/lang/UnsupportedOperationException" ∈ gw := gw_t3 93 rfl rfl
theorem lk574 : Cond.methodLink "GuardRosterLaw" (31 : Nat) ({ cls := "GuardRoster", name := "assign", desc := "(III)I" } : Jvm.MethodName) ∈ gw := gw_t3 94 rfl rfl
theorem lk575 : Cond.instanceMethod ({ cls := "GuardRoster", name := "assign", desc := "(III)I" } : Jvm.MethodName) ∈ gw := gw_t3 95 rfl rfl
theorem lk578 : Cond.methodLink "GuardRoster" (103 : Nat) ({ cls := "GuardRoster", name := "problemOfDuty", desc := "(III)I" } : Jvm.MethodName) ∈ gw := gw_t3 98 rfl rfl
theorem lk580 : Cond.instanceMethod ({ cls := "GuardRoster", name := "problemOfDuty", desc := "(III)I" } : Jvm.MethodName) ∈ gw := gw_t3 100 rfl rfl
theorem lk582 : Cond.methodLink "GuardRoster" (122 : Nat) ({ cls := "GuardRoster$Roster", name := "hasPassed", desc := "(I)Z" } : Jvm.MethodName) ∈ gw := gw_t3 102 rfl rfl
theorem lk583 : Cond.instanceMethod ({ cls := "GuardRoster$Roster", name := "hasPassed", desc := "(I)Z" } : Jvm.MethodName) ∈ gw := gw_t3 103 rfl rfl
theorem lk586 : Cond.methodLink "GuardRoster" (376 : Nat) ({ cls := "GuardRoster", name := "isRefused", desc := "(III)Z" } : Jvm.MethodName) ∈ gw := gw_t3 106 rfl rfl
theorem lk588 : Cond.instanceMethod ({ cls := "GuardRoster", name := "isRefused", desc := "(III)Z" } : Jvm.MethodName) ∈ gw := gw_t3 108 rfl rfl
theorem lk590 : Cond.methodLink "GuardRoster" (125 : Nat) ({ cls := "GuardRoster$Roster", name := "reasonAgainst", desc := "(III)I" } : Jvm.MethodName) ∈ gw := gw_t3 110 rfl rfl
theorem lk591 : Cond.methodLink "GuardRoster" (390 : Nat) ({ cls := "GuardRoster$Roster", name := "detailOf", desc := "(IIII)I" } : Jvm.MethodName) ∈ gw := gw_t3 111 rfl rfl
theorem lk592 : Cond.instanceMethod ({ cls := "GuardRoster$Roster", name := "detailOf", desc := "(IIII)I" } : Jvm.MethodName) ∈ gw := gw_t3 112 rfl rfl
theorem lk595 : Cond.methodLink "GuardRoster" (387 : Nat) ({ cls := "GuardRoster", name := "keepRefusal", desc := "(II)V" } : Jvm.MethodName) ∈ gw := gw_t3 115 rfl rfl
theorem lk597 : Cond.instanceMethod ({ cls := "GuardRoster", name := "keepRefusal", desc := "(II)V" } : Jvm.MethodName) ∈ gw := gw_t3 117 rfl rfl
theorem lk599 : Cond.methodLink "GuardRoster" (107 : Nat) ({ cls := "GuardRoster$Roster", name := "setDuty", desc := "(III)V" } : Jvm.MethodName) ∈ gw := gw_t3 119 rfl rfl
theorem lk600 : Cond.instanceMethod ({ cls := "GuardRoster$Roster", name := "setDuty", desc := "(III)V" } : Jvm.MethodName) ∈ gw := gw_t3 120 rfl rfl
theorem lk603 : Cond.methodLink "GuardRoster" (111 : Nat) ({ cls := "GuardRoster$Roster", name := "dutyTotal", desc := "(I)I" } : Jvm.MethodName) ∈ gw := gw_t3 123 rfl rfl
theorem lk604 : Cond.instanceMethod ({ cls := "GuardRoster$Roster", name := "dutyTotal", desc := "(I)I" } : Jvm.MethodName) ∈ gw := gw_t3 124 rfl rfl
theorem lk607 : Cond.methodLink "GuardRosterLaw" (183 : Nat) ({ cls := "GuardRosterLaw", name := "canAssign", desc := "(LGuardRoster;III[J)I" } : Jvm.MethodName) ∈ gw := gw_t3 127 rfl rfl
theorem lk608 : Cond.static ({ cls := "GuardRosterLaw", name := "canAssign", desc := "(LGuardRoster;III[J)I" } : Jvm.MethodName) ∈ gw := gw_t3 128 rfl rfl
theorem lk610 : Cond.methodLink "GuardRosterLaw" (37 : Nat) ({ cls := "GuardRoster", name := "canAssign", desc := "(III)Z" } : Jvm.MethodName) ∈ gw := gw_t3 130 rfl rfl
theorem lk611 : Cond.instanceMethod ({ cls := "GuardRoster", name := "canAssign", desc := "(III)Z" } : Jvm.MethodName) ∈ gw := gw_t3 131 rfl rfl
theorem lk614 : Cond.methodLink "GuardRosterLaw" (186 : Nat) ({ cls := "GuardRosterLaw", name := "remove", desc := "(LGuardRoster;II[J)I" } : Jvm.MethodName) ∈ gw := gw_t3 134 rfl rfl
theorem lk615 : Cond.static ({ cls := "GuardRosterLaw", name := "remove", desc := "(LGuardRoster;II[J)I" } : Jvm.MethodName) ∈ gw := gw_t3 135 rfl rfl
theorem lk617 : Cond.classLink "GuardRosterLaw" (45 : Nat) "java/util/NoSuchElementException" ∈ gw := gw_t3 137 rfl rfl
theorem lk618 : Cond.methodLink "GuardRosterLaw" (41 : Nat) ({ cls := "GuardRoster", name := "remove", desc := "(II)I" } : Jvm.MethodName) ∈ gw := gw_t3 138 rfl rfl
theorem lk619 : Cond.instanceMethod ({ cls := "GuardRoster", name := "remove", desc := "(II)I" } : Jvm.MethodName) ∈ gw := gw_t3 139 rfl rfl
theorem lk622 : Cond.methodLink "GuardRoster" (128 : Nat) ({ cls := "GuardRoster", name := "problemOfFreeing", desc := "(II)I" } : Jvm.MethodName) ∈ gw := gw_t3 142 rfl rfl
theorem lk624 : Cond.instanceMethod ({ cls := "GuardRoster", name := "problemOfFreeing", desc := "(II)I" } : Jvm.MethodName) ∈ gw := gw_t3 144 rfl rfl
theorem lk626 : Cond.methodLink "GuardRoster" (132 : Nat) ({ cls := "GuardRoster$Roster", name := "guardOn", desc := "(II)I" } : Jvm.MethodName) ∈ gw := gw_t3 146 rfl rfl
theorem lk627 : Cond.methodLink "GuardRosterLaw" (190 : Nat) ({ cls := "GuardRosterLaw", name := "exchange", desc := "(LGuardRoster;IIII[J)I" } : Jvm.MethodName) ∈ gw := gw_t3 147 rfl rfl
theorem lk628 : Cond.static ({ cls := "GuardRosterLaw", name := "exchange", desc := "(LGuardRoster;IIII[J)I" } : Jvm.MethodName) ∈ gw := gw_t3 148 rfl rfl
theorem lk630 : Cond.methodLink "GuardRosterLaw" (47 : Nat) ({ cls := "GuardRoster", name := "exchange", desc := "(IIII)I" } : Jvm.MethodName) ∈ gw := gw_t3 150 rfl rfl
theorem lk631 : Cond.instanceMethod ({ cls := "GuardRoster", name := "exchange", desc := "(IIII)I" } : Jvm.MethodName) ∈ gw := gw_t3 151 rfl rfl
theorem lk634 : Cond.methodLink "GuardRoster" (135 : Nat) ({ cls := "GuardRoster", name := "problemOfExchange", desc := "(IIII)I" } : Jvm.MethodName) ∈ gw := gw_t3 154 rfl rfl
theorem lk636 : Cond.instanceMethod ({ cls := "GuardRoster", name := "problemOfExchange", desc := "(IIII)I" } : Jvm.MethodName) ∈ gw := gw_t3 156 rfl rfl
theorem lk638 : Cond.methodLink "GuardRoster" (380 : Nat) ({ cls := "GuardRoster", name := "isExchangeRefused", desc := "(IIII)Z" } : Jvm.MethodName) ∈ gw := gw_t3 158 rfl rfl
theorem lk640 : Cond.instanceMethod ({ cls := "GuardRoster", name := "isExchangeRefused", desc := "(IIII)Z" } : Jvm.MethodName) ∈ gw := gw_t3 160 rfl rfl
theorem lk642 : Cond.methodLink "GuardRosterLaw" (194 : Nat) ({ cls := "GuardRosterLaw", name := "fillSlot", desc := "(LGuardRoster;I[J)I" } : Jvm.MethodName) ∈ gw := gw_t3 162 rfl rfl
theorem lk643 : Cond.static ({ cls := "GuardRosterLaw", name := "fillSlot", desc := "(LGuardRoster;I[J)I" } : Jvm.MethodName) ∈ gw := gw_t3 163 rfl rfl
theorem lk645 : Cond.methodLink "GuardRosterLaw" (51 : Nat) ({ cls := "GuardRoster", name := "fillSlot", desc := "(I)I" } : Jvm.MethodName) ∈ gw := gw_t3 165 rfl rfl
theorem lk646 : Cond.instanceMethod ({ cls := "GuardRoster", name := "fillSlot", desc := "(I)I" } : Jvm.MethodName) ∈ gw := gw_t3 166 rfl rfl
theorem lk649 : Cond.methodLink "GuardRoster" (139 : Nat) ({ cls := "GuardRoster", name := "problemOfFilling", desc := "(I)I" } : Jvm.MethodName) ∈ gw := gw_t3 169 rfl rfl
theorem lk651 : Cond.instanceMethod ({ cls := "GuardRoster", name := "problemOfFilling", desc := "(I)I" } : Jvm.MethodName) ∈ gw := gw_t3 171 rfl rfl
theorem lk653 : Cond.methodLink "GuardRoster" (142 : Nat) ({ cls := "GuardRoster$Roster", name := "fill", desc := "(I)I" } : Jvm.MethodName) ∈ gw := gw_t3 173 rfl rfl
theorem lk654 : Cond.instanceMethod ({ cls := "GuardRoster$Roster", name := "fill", desc := "(I)I" } : Jvm.MethodName) ∈ gw := gw_t3 174 rfl rfl
theorem lk657 : Cond.methodLink "GuardRoster$Roster" (73 : Nat) ({ cls := "GuardRoster$Roster", name := "computeOrderKeys", desc := "()V" } : Jvm.MethodName) ∈ gw := gw_t3 177 rfl rfl
theorem lk659 : Cond.instanceMethod ({ cls := "GuardRoster$Roster", name := "computeOrderKeys", desc := "()V" } : Jvm.MethodName) ∈ gw := gw_t3 179 rfl rfl
theorem lk661 : Cond.methodLink "GuardRoster$Roster" (70 : Nat) ({ cls := "GuardRoster$Roster", name := "dutyTotal", desc := "(I)I" } : Jvm.MethodName) ∈ gw := gw_t3 181 rfl rfl
theorem lk662 : Cond.methodLink "GuardRoster$Roster" (79 : Nat) ({ cls := "GuardRoster$Roster", name := "mostNeedingGate", desc := "(I)I" } : Jvm.MethodName) ∈ gw := gw_t3 182 rfl rfl
theorem lk664 : Cond.instanceMethod ({ cls := "GuardRoster$Roster", name := "mostNeedingGate", desc := "(I)I" } : Jvm.MethodName) ∈ gw := gw_t3 184 rfl rfl
theorem lk666 : Cond.methodLink "GuardRoster$Roster" (82 : Nat) ({ cls := "GuardRoster$Roster", name := "firstGuardFor", desc := "(II)I" } : Jvm.MethodName) ∈ gw := gw_t3 186 rfl rfl
theorem lk668 : Cond.instanceMethod ({ cls := "GuardRoster$Roster", name := "firstGuardFor", desc := "(II)I" } : Jvm.MethodName) ∈ gw := gw_t3 188 rfl rfl
theorem lk670 : Cond.methodLink "GuardRoster$Roster" (89 : Nat) ({ cls := "GuardRoster$Roster", name := "reasonAgainst", desc := "(III)I" } : Jvm.MethodName) ∈ gw := gw_t3 190 rfl rfl
theorem lk671 : Cond.methodLink "GuardRoster$Roster" (85 : Nat) ({ cls := "GuardRoster$Roster", name := "setDuty", desc := "(III)V" } : Jvm.MethodName) ∈ gw := gw_t3 191 rfl rfl
theorem lk672 : Cond.methodLink "GuardRosterLaw" (197 : Nat) ({ cls := "GuardRosterLaw", name := "guardAt", desc := "(LGuardRoster;II[J)I" } : Jvm.MethodName) ∈ gw := gw_t3 192 rfl rfl
theorem lk673 : Cond.static ({ cls := "GuardRosterLaw", name := "guardAt", desc := "(LGuardRoster;II[J)I" } : Jvm.MethodName) ∈ gw := gw_t3 193 rfl rfl
theorem lk675 : Cond.methodLink "GuardRosterLaw" (54 : Nat) ({ cls := "GuardRoster", name := "guardAt", desc := "(II)I" } : Jvm.MethodName) ∈ gw := gw_t3 195 rfl rfl
theorem lk676 : Cond.instanceMethod ({ cls := "GuardRoster", name := "guardAt", desc := "(II)I" } : Jvm.MethodName) ∈ gw := gw_t3 196 rfl rfl
theorem lk681 : Cond.methodLink "GuardRosterLaw" (200 : Nat) ({ cls := "GuardRosterLaw", name := "gateOf", desc := "(LGuardRoster;II[J)I" } : Jvm.MethodName) ∈ gw := gw_t3 201 rfl rfl
theorem lk682 : Cond.static ({ cls := "GuardRosterLaw", name := "gateOf", desc := "(LGuardRoster;II[J)I" } : Jvm.MethodName) ∈ gw := gw_t3 202 rfl rfl
theorem lk684 : Cond.methodLink "GuardRosterLaw" (57 : Nat) ({ cls := "GuardRoster", name := "gateOf", desc := "(II)I" } : Jvm.MethodName) ∈ gw := gw_t3 204 rfl rfl
theorem lk685 : Cond.instanceMethod ({ cls := "GuardRoster", name := "gateOf", desc := "(II)I" } : Jvm.MethodName) ∈ gw := gw_t3 205 rfl rfl
theorem lk688 : Cond.methodLink "GuardRoster" (152 : Nat) ({ cls := "GuardRoster", name := "throwUnlessGuardAndSlot", desc := "(II)V" } : Jvm.MethodName) ∈ gw := gw_t3 208 rfl rfl
theorem lk690 : Cond.instanceMethod ({ cls := "GuardRoster", name := "throwUnlessGuardAndSlot", desc := "(II)V" } : Jvm.MethodName) ∈ gw := gw_t3 210 rfl rfl
theorem lk692 : Cond.methodLink "GuardRoster" (156 : Nat) ({ cls := "GuardRoster$Roster", name := "gateHeld", desc := "(II)I" } : Jvm.MethodName) ∈ gw := gw_t3 212 rfl rfl
theorem lk694 : Cond.methodLink "GuardRosterLaw" (203 : Nat) ({ cls := "GuardRosterLaw", name := "dutiesOf", desc := "(LGuardRoster;I[J)I" } : Jvm.MethodName) ∈ gw := gw_t3 214 rfl rfl
theorem lk695 : Cond.static ({ cls := "GuardRosterLaw", name := "dutiesOf", desc := "(LGuardRoster;I[J)I" } : Jvm.MethodName) ∈ gw := gw_t3 215 rfl rfl
theorem lk697 : Cond.methodLink "GuardRosterLaw" (60 : Nat) ({ cls := "GuardRoster", name := "dutiesOf", desc := "(I)I" } : Jvm.MethodName) ∈ gw := gw_t3 217 rfl rfl
theorem lk698 : Cond.instanceMethod ({ cls := "GuardRoster", name := "dutiesOf", desc := "(I)I" } : Jvm.MethodName) ∈ gw := gw_t3 218 rfl rfl
theorem lk701 : Cond.methodLink "GuardRosterLaw" (210 : Nat) ({ cls := "GuardRosterLaw", name := "openGates", desc := "(LGuardRoster;I[J)I" } : Jvm.MethodName) ∈ gw := gw_t3 221 rfl rfl
theorem lk702 : Cond.static ({ cls := "GuardRosterLaw", name := "openGates", desc := "(LGuardRoster;I[J)I" } : Jvm.MethodName) ∈ gw := gw_t3 222 rfl rfl
theorem lk704 : Cond.methodLink "GuardRosterLaw" (63 : Nat) ({ cls := "GuardRoster", name := "openGates", desc := "(I)I" } : Jvm.MethodName) ∈ gw := gw_t3 224 rfl rfl
theorem lk705 : Cond.instanceMethod ({ cls := "GuardRoster", name := "openGates", desc := "(I)I" } : Jvm.MethodName) ∈ gw := gw_t3 225 rfl rfl
theorem lk708 : Cond.methodLink "GuardRosterLaw" (221 : Nat) ({ cls := "GuardRosterLaw", name := "mostDuties", desc := "(LGuardRoster;I[J)I" } : Jvm.MethodName) ∈ gw := gw_t3 228 rfl rfl
theorem lk709 : Cond.static ({ cls := "GuardRosterLaw", name := "mostDuties", desc := "(LGuardRoster;I[J)I" } : Jvm.MethodName) ∈ gw := gw_t3 229 rfl rfl
theorem lk711 : Cond.methodLink "GuardRosterLaw" (66 : Nat) ({ cls := "GuardRoster", name := "mostDuties", desc := "(I)I" } : Jvm.MethodName) ∈ gw := gw_t3 231 rfl rfl
theorem lk712 : Cond.methodLink "GuardRosterLaw" (224 : Nat) ({ cls := "GuardRosterLaw", name := "mostDutiesBySets", desc := "(LGuardRoster;I[J)I" } : Jvm.MethodName) ∈ gw := gw_t3 232 rfl rfl
theorem lk713 : Cond.static ({ cls := "GuardRosterLaw", name := "mostDutiesBySets", desc := "(LGuardRoster;I[J)I" } : Jvm.MethodName) ∈ gw := gw_t3 233 rfl rfl
theorem lk715 : Cond.methodLink "GuardRosterLaw" (69 : Nat) ({ cls := "GuardRoster", name := "mostDutiesBySets", desc := "(I)I" } : Jvm.MethodName) ∈ gw := gw_t3 235 rfl rfl
theorem lk716 : Cond.methodLink "GuardRosterLaw" (227 : Nat) ({ cls := "GuardRosterLaw", name := "nextDuty", desc := "(LGuardRoster;I[J)I" } : Jvm.MethodName) ∈ gw := gw_t3 236 rfl rfl
theorem lk717 : Cond.static ({ cls := "GuardRosterLaw", name := "nextDuty", desc := "(LGuardRoster;I[J)I" } : Jvm.MethodName) ∈ gw := gw_t3 237 rfl rfl
theorem lk719 : Cond.methodLink "GuardRosterLaw" (72 : Nat) ({ cls := "GuardRoster", name := "nextDuty", desc := "(I)I" } : Jvm.MethodName) ∈ gw := gw_t3 239 rfl rfl
theorem lk720 : Cond.instanceMethod ({ cls := "GuardRoster", name := "nextDuty", desc := "(I)I" } : Jvm.MethodName) ∈ gw := gw_t4 0 rfl rfl
theorem lk723 : Cond.methodLink "GuardRoster" (186 : Nat) ({ cls := "GuardRoster$Roster", name := "nextSlotOf", desc := "(I)I" } : Jvm.MethodName) ∈ gw := gw_t4 3 rfl rfl
theorem lk724 : Cond.instanceMethod ({ cls := "GuardRoster$Roster", name := "nextSlotOf", desc := "(I)I" } : Jvm.MethodName) ∈ gw := gw_t4 4 rfl rfl
theorem lk728 : Cond.methodLink "GuardRosterLaw" (230 : Nat) ({ cls := "GuardRosterLaw", name := "longestRest", desc := "(LGuardRoster;I[J)I" } : Jvm.MethodName) ∈ gw := gw_t4 8 rfl rfl
theorem lk729 : Cond.static ({ cls := "GuardRosterLaw", name := "longestRest", desc := "(LGuardRoster;I[J)I" } : Jvm.MethodName) ∈ gw := gw_t4 9 rfl rfl
theorem lk731 : Cond.methodLink "GuardRosterLaw" (75 : Nat) ({ cls := "GuardRoster", name := "longestRest", desc := "(I)I" } : Jvm.MethodName) ∈ gw := gw_t4 11 rfl rfl
theorem lk732 : Cond.instanceMethod ({ cls := "GuardRoster", name := "longestRest", desc := "(I)I" } : Jvm.MethodName) ∈ gw := gw_t4 12 rfl rfl
theorem lk735 : Cond.methodLink "GuardRoster" (191 : Nat) ({ cls := "GuardRoster$Roster", name := "longestGap", desc := "(I)I" } : Jvm.MethodName) ∈ gw := gw_t4 15 rfl rfl
theorem lk736 : Cond.instanceMethod ({ cls := "GuardRoster$Roster", name := "longestGap", desc := "(I)I" } : Jvm.MethodName) ∈ gw := gw_t4 16 rfl rfl
theorem lk739 : Cond.methodLink "GuardRosterLaw" (233 : Nat) ({ cls := "GuardRosterLaw", name := "guardByDuties", desc := "(LGuardRoster;I[J)I" } : Jvm.MethodName) ∈ gw := gw_t4 19 rfl rfl
theorem lk740 : Cond.static ({ cls := "GuardRosterLaw", name := "guardByDuties", desc := "(LGuardRoster;I[J)I" } : Jvm.MethodName) ∈ gw := gw_t4 20 rfl rfl
theorem lk742 : Cond.methodLink "GuardRosterLaw" (78 : Nat) ({ cls := "GuardRoster", name := "guardByDuties", desc := "(I)I" } : Jvm.MethodName) ∈ gw := gw_t4 22 rfl rfl
theorem lk743 : Cond.instanceMethod ({ cls := "GuardRoster", name := "guardByDuties", desc := "(I)I" } : Jvm.MethodName) ∈ gw := gw_t4 23 rfl rfl
theorem lk747 : Cond.methodLink "GuardRoster" (196 : Nat) ({ cls := "GuardRoster$Roster", name := "guardInOrder", desc := "(I)I" } : Jvm.MethodName) ∈ gw := gw_t4 27 rfl rfl
theorem lk748 : Cond.instanceMethod ({ cls := "GuardRoster$Roster", name := "guardInOrder", desc := "(I)I" } : Jvm.MethodName) ∈ gw := gw_t4 28 rfl rfl
theorem lk751 : Cond.methodLink "GuardRoster$Roster" (76 : Nat) ({ cls := "GuardRoster$Roster", name := "guardsBefore", desc := "(I)I" } : Jvm.MethodName) ∈ gw := gw_t4 31 rfl rfl
theorem lk753 : Cond.instanceMethod ({ cls := "GuardRoster$Roster", name := "guardsBefore", desc := "(I)I" } : Jvm.MethodName) ∈ gw := gw_t4 33 rfl rfl
theorem lk755 : Cond.methodLink "GuardRosterLaw" (236 : Nat) ({ cls := "GuardRosterLaw", name := "grantLeave", desc := "(LGuardRoster;III[J)I" } : Jvm.MethodName) ∈ gw := gw_t4 35 rfl rfl
theorem lk756 : Cond.static ({ cls := "GuardRosterLaw", name := "grantLeave", desc := "(LGuardRoster;III[J)I" } : Jvm.MethodName) ∈ gw := gw_t4 36 rfl rfl
theorem lk758 : Cond.methodLink "GuardRosterLaw" (81 : Nat) ({ cls := "GuardRoster", name := "grantLeave", desc := "(III)I" } : Jvm.MethodName) ∈ gw := gw_t4 38 rfl rfl
theorem lk759 : Cond.instanceMethod ({ cls := "GuardRoster", name := "grantLeave", desc := "(III)I" } : Jvm.MethodName) ∈ gw := gw_t4 39 rfl rfl
theorem lk762 : Cond.methodLink "GuardRoster" (199 : Nat) ({ cls := "GuardRoster", name := "problemOfLeave", desc := "(III)I" } : Jvm.MethodName) ∈ gw := gw_t4 42 rfl rfl
theorem lk764 : Cond.instanceMethod ({ cls := "GuardRoster", name := "problemOfLeave", desc := "(III)I" } : Jvm.MethodName) ∈ gw := gw_t4 44 rfl rfl
theorem lk766 : Cond.methodLink "GuardRoster" (384 : Nat) ({ cls := "GuardRoster$Roster", name := "firstGateHeld", desc := "(III)I" } : Jvm.MethodName) ∈ gw := gw_t4 46 rfl rfl
theorem lk767 : Cond.instanceMethod ({ cls := "GuardRoster$Roster", name := "firstGateHeld", desc := "(III)I" } : Jvm.MethodName) ∈ gw := gw_t4 47 rfl rfl
theorem lk770 : Cond.methodLink "GuardRoster" (202 : Nat) ({ cls := "GuardRoster$Roster", name := "addLeave", desc := "(III)I" } : Jvm.MethodName) ∈ gw := gw_t4 50 rfl rfl
theorem lk771 : Cond.instanceMethod ({ cls := "GuardRoster$Roster", name := "addLeave", desc := "(III)I" } : Jvm.MethodName) ∈ gw := gw_t4 51 rfl rfl
theorem lk774 : Cond.methodLink "GuardRoster$Roster" (98 : Nat) ({ cls := "GuardRoster$Roster", name := "leaveTotal", desc := "(I)I" } : Jvm.MethodName) ∈ gw := gw_t4 54 rfl rfl
theorem lk775 : Cond.instanceMethod ({ cls := "GuardRoster$Roster", name := "leaveTotal", desc := "(I)I" } : Jvm.MethodName) ∈ gw := gw_t4 55 rfl rfl
theorem lk778 : Cond.methodLink "GuardRoster$Roster" (93 : Nat) ({ cls := "java/lang/Integer", name := "bitCount", desc := "(I)I" } : Jvm.MethodName) ∈ gw := gw_t4 58 rfl rfl
theorem lk779 : Cond.methodLink "GuardRosterLaw" (239 : Nat) ({ cls := "GuardRosterLaw", name := "endLeave", desc := "(LGuardRoster;II[J)I" } : Jvm.MethodName) ∈ gw := gw_t4 59 rfl rfl
theorem lk780 : Cond.static ({ cls := "GuardRosterLaw", name := "endLeave", desc := "(LGuardRoster;II[J)I" } : Jvm.MethodName) ∈ gw := gw_t4 60 rfl rfl
theorem lk782 : Cond.methodLink "GuardRosterLaw" (84 : Nat) ({ cls := "GuardRoster", name := "endLeave", desc := "(II)I" } : Jvm.MethodName) ∈ gw := gw_t4 62 rfl rfl
theorem lk783 : Cond.instanceMethod ({ cls := "GuardRoster", name := "endLeave", desc := "(II)I" } : Jvm.MethodName) ∈ gw := gw_t4 63 rfl rfl
theorem lk786 : Cond.methodLink "GuardRoster" (205 : Nat) ({ cls := "GuardRoster$Roster", name := "hasLeave", desc := "(II)Z" } : Jvm.MethodName) ∈ gw := gw_t4 66 rfl rfl
theorem lk788 : Cond.methodLink "GuardRoster" (211 : Nat) ({ cls := "GuardRoster$Roster", name := "dropLeave", desc := "(II)V" } : Jvm.MethodName) ∈ gw := gw_t4 68 rfl rfl
theorem lk789 : Cond.instanceMethod ({ cls := "GuardRoster$Roster", name := "dropLeave", desc := "(II)V" } : Jvm.MethodName) ∈ gw := gw_t4 69 rfl rfl
theorem lk792 : Cond.methodLink "GuardRoster" (214 : Nat) ({ cls := "GuardRoster$Roster", name := "leaveTotal", desc := "(I)I" } : Jvm.MethodName) ∈ gw := gw_t4 72 rfl rfl
theorem lk793 : Cond.methodLink "GuardRosterLaw" (242 : Nat) ({ cls := "GuardRosterLaw", name := "isOnLeave", desc := "(LGuardRoster;II[J)I" } : Jvm.MethodName) ∈ gw := gw_t4 73 rfl rfl
theorem lk794 : Cond.static ({ cls := "GuardRosterLaw", name := "isOnLeave", desc := "(LGuardRoster;II[J)I" } : Jvm.MethodName) ∈ gw := gw_t4 74 rfl rfl
theorem lk796 : Cond.methodLink "GuardRosterLaw" (87 : Nat) ({ cls := "GuardRoster", name := "isOnLeave", desc := "(II)Z" } : Jvm.MethodName) ∈ gw := gw_t4 76 rfl rfl
theorem lk797 : Cond.instanceMethod ({ cls := "GuardRoster", name := "isOnLeave", desc := "(II)Z" } : Jvm.MethodName) ∈ gw := gw_t4 77 rfl rfl
theorem lk800 : Cond.methodLink "GuardRosterLaw" (245 : Nat) ({ cls := "GuardRosterLaw", name := "leaveSlots", desc := "(LGuardRoster;I[J)I" } : Jvm.MethodName) ∈ gw := gw_t4 80 rfl rfl
theorem lk801 : Cond.static ({ cls := "GuardRosterLaw", name := "leaveSlots", desc := "(LGuardRoster;I[J)I" } : Jvm.MethodName) ∈ gw := gw_t4 81 rfl rfl
theorem lk803 : Cond.methodLink "GuardRosterLaw" (91 : Nat) ({ cls := "GuardRoster", name := "leaveSlots", desc := "(I)I" } : Jvm.MethodName) ∈ gw := gw_t4 83 rfl rfl
theorem lk804 : Cond.instanceMethod ({ cls := "GuardRoster", name := "leaveSlots", desc := "(I)I" } : Jvm.MethodName) ∈ gw := gw_t4 84 rfl rfl
theorem lk807 : Cond.methodLink "GuardRosterLaw" (248 : Nat) ({ cls := "GuardRosterLaw", name := "addRations", desc := "(LGuardRoster;I[J)I" } : Jvm.MethodName) ∈ gw := gw_t4 87 rfl rfl
theorem lk808 : Cond.static ({ cls := "GuardRosterLaw", name := "addRations", desc := "(LGuardRoster;I[J)I" } : Jvm.MethodName) ∈ gw := gw_t4 88 rfl rfl
theorem lk810 : Cond.methodLink "GuardRosterLaw" (94 : Nat) ({ cls := "GuardRoster", name := "addRations", desc := "(I)I" } : Jvm.MethodName) ∈ gw := gw_t4 90 rfl rfl
theorem lk811 : Cond.instanceMethod ({ cls := "GuardRoster", name := "addRations", desc := "(I)I" } : Jvm.MethodName) ∈ gw := gw_t4 91 rfl rfl
theorem lk814 : Cond.methodLink "GuardRoster" (217 : Nat) ({ cls := "GuardRoster", name := "problemOfFood", desc := "(I)I" } : Jvm.MethodName) ∈ gw := gw_t4 94 rfl rfl
theorem lk816 : Cond.instanceMethod ({ cls := "GuardRoster", name := "problemOfFood", desc := "(I)I" } : Jvm.MethodName) ∈ gw := gw_t4 96 rfl rfl
theorem lk818 : Cond.methodLink "GuardRoster" (220 : Nat) ({ cls := "GuardRoster$Roster", name := "store", desc := "(I)V" } : Jvm.MethodName) ∈ gw := gw_t4 98 rfl rfl
theorem lk819 : Cond.instanceMethod ({ cls := "GuardRoster$Roster", name := "store", desc := "(I)V" } : Jvm.MethodName) ∈ gw := gw_t4 99 rfl rfl
theorem lk822 : Cond.methodLink "GuardRosterLaw" (251 : Nat) ({ cls := "GuardRosterLaw", name := "passSlots", desc := "(LGuardRoster;I[J)I" } : Jvm.MethodName) ∈ gw := gw_t4 102 rfl rfl
theorem lk823 : Cond.static ({ cls := "GuardRosterLaw", name := "passSlots", desc := "(LGuardRoster;I[J)I" } : Jvm.MethodName) ∈ gw := gw_t4 103 rfl rfl
theorem lk825 : Cond.methodLink "GuardRosterLaw" (97 : Nat) ({ cls := "GuardRoster", name := "passSlots", desc := "(I)I" } : Jvm.MethodName) ∈ gw := gw_t4 105 rfl rfl
theorem lk826 : Cond.instanceMethod ({ cls := "GuardRoster", name := "passSlots", desc := "(I)I" } : Jvm.MethodName) ∈ gw := gw_t4 106 rfl rfl
theorem lk829 : Cond.methodLink "GuardRoster" (226 : Nat) ({ cls := "GuardRoster", name := "problemOfPassing", desc := "(I)I" } : Jvm.MethodName) ∈ gw := gw_t4 109 rfl rfl
theorem lk831 : Cond.instanceMethod ({ cls := "GuardRoster", name := "problemOfPassing", desc := "(I)I" } : Jvm.MethodName) ∈ gw := gw_t4 111 rfl rfl
theorem lk833 : Cond.methodLink "GuardRoster" (229 : Nat) ({ cls := "GuardRoster$Roster", name := "letPass", desc := "(I)I" } : Jvm.MethodName) ∈ gw := gw_t4 113 rfl rfl
theorem lk834 : Cond.instanceMethod ({ cls := "GuardRoster$Roster", name := "letPass", desc := "(I)I" } : Jvm.MethodName) ∈ gw := gw_t4 114 rfl rfl
theorem lk837 : Cond.methodLink "GuardRoster$Roster" (101 : Nat) ({ cls := "GuardRoster$Roster", name := "feedGuardsOf", desc := "(I)I" } : Jvm.MethodName) ∈ gw := gw_t4 117 rfl rfl
theorem lk839 : Cond.instanceMethod ({ cls := "GuardRoster$Roster", name := "feedGuardsOf", desc := "(I)I" } : Jvm.MethodName) ∈ gw := gw_t4 119 rfl rfl
theorem lk841 : Cond.methodLink "GuardRosterLaw" (266 : Nat) ({ cls := "GuardRosterLaw", name := "refusalReason", desc := "(LGuardRoster;[J)I" } : Jvm.MethodName) ∈ gw := gw_t4 121 rfl rfl
theorem lk842 : Cond.static ({ cls := "GuardRosterLaw", name := "refusalReason", desc := "(LGuardRoster;[J)I" } : Jvm.MethodName) ∈ gw := gw_t4 122 rfl rfl
theorem lk844 : Cond.methodLink "GuardRosterLaw" (100 : Nat) ({ cls := "GuardRoster", name := "refusalReason", desc := "()I" } : Jvm.MethodName) ∈ gw := gw_t4 124 rfl rfl
theorem lk845 : Cond.instanceMethod ({ cls := "GuardRoster", name := "refusalReason", desc := "()I" } : Jvm.MethodName) ∈ gw := gw_t4 125 rfl rfl
theorem lk848 : Cond.methodLink "GuardRoster" (237 : Nat) ({ cls := "GuardRoster", name := "throwUnlessRefused", desc := "()V" } : Jvm.MethodName) ∈ gw := gw_t4 128 rfl rfl
theorem lk850 : Cond.instanceMethod ({ cls := "GuardRoster", name := "throwUnlessRefused", desc := "()V" } : Jvm.MethodName) ∈ gw := gw_t4 130 rfl rfl
theorem lk853 : Cond.methodLink "GuardRosterLaw" (270 : Nat) ({ cls := "GuardRosterLaw", name := "refusalDetail", desc := "(LGuardRoster;[J)I" } : Jvm.MethodName) ∈ gw := gw_t4 133 rfl rfl
theorem lk854 : Cond.static ({ cls := "GuardRosterLaw", name := "refusalDetail", desc := "(LGuardRoster;[J)I" } : Jvm.MethodName) ∈ gw := gw_t4 134 rfl rfl
theorem lk856 : Cond.methodLink "GuardRosterLaw" (104 : Nat) ({ cls := "GuardRoster", name := "refusalDetail", desc := "()I" } : Jvm.MethodName) ∈ gw := gw_t4 136 rfl rfl
theorem lk857 : Cond.instanceMethod ({ cls := "GuardRoster", name := "refusalDetail", desc := "()I" } : Jvm.MethodName) ∈ gw := gw_t4 137 rfl rfl
theorem lk860 : Cond.methodLink "GuardRosterLaw" (273 : Nat) ({ cls := "GuardRosterLaw", name := "meanDuties", desc := "(LGuardRoster;[D)I" } : Jvm.MethodName) ∈ gw := gw_t4 140 rfl rfl
theorem lk861 : Cond.static ({ cls := "GuardRosterLaw", name := "meanDuties", desc := "(LGuardRoster;[D)I" } : Jvm.MethodName) ∈ gw := gw_t4 141 rfl rfl
theorem lk863 : Cond.classLink "GuardRosterLaw" (111 : Nat) "java/lang/ArithmeticException" ∈ gw := gw_t4 143 rfl rfl
theorem lk864 : Cond.instantiable "java/lang/ArithmeticException" (6 : Nat) ∈ gw := gw_t4 144 rfl rfl
theorem lk865 : Cond.instanceMethod ({ cls := "java/lang/ArithmeticException", name := "<init>", desc := "(Ljava/lang/String;)V" } : Jvm.MethodName) ∈ gw := gw_t4 145 rfl rfl
theorem lk867 : Cond.methodLink "java/lang/ArithmeticException" (7 : Nat) ({ cls := "java/lang/RuntimeException", name := "<init>", desc := "(Ljava/lang/String;)V" } : Jvm.MethodName) ∈ gw := gw_t4 147 rfl rfl
theorem lk877 : Cond.methodLink "GuardRosterLaw" (107 : Nat) ({ cls := "GuardRoster", name := "meanDuties", desc := "()D" } : Jvm.MethodName) ∈ gw := gw_t4 157 rfl rfl
theorem lk878 : Cond.instanceMethod ({ cls := "GuardRoster", name := "meanDuties", desc := "()D" } : Jvm.MethodName) ∈ gw := gw_t4 158 rfl rfl
theorem lk881 : Cond.classLink "GuardRoster" (246 : Nat) "java/lang/ArithmeticException" ∈ gw := gw_t4 161 rfl rfl
theorem lk883 : Cond.methodLink "GuardRoster" (250 : Nat) ({ cls := "java/lang/ArithmeticException", name := "<init>", desc := "(Ljava/lang/String;)V" } : Jvm.MethodName) ∈ gw := gw_t4 163 rfl rfl
theorem lk884 : Cond.methodLink "GuardRosterLaw" (277 : Nat) ({ cls := "GuardRosterLaw", name := "coveredFraction", desc := "(LGuardRoster;[D)I" } : Jvm.MethodName) ∈ gw := gw_t4 164 rfl rfl
theorem lk885 : Cond.static ({ cls := "GuardRosterLaw", name := "coveredFraction", desc := "(LGuardRoster;[D)I" } : Jvm.MethodName) ∈ gw := gw_t4 165 rfl rfl
theorem lk887 : Cond.methodLink "GuardRosterLaw" (113 : Nat) ({ cls := "GuardRoster", name := "coveredFraction", desc := "()F" } : Jvm.MethodName) ∈ gw := gw_t4 167 rfl rfl
theorem lk888 : Cond.instanceMethod ({ cls := "GuardRoster", name := "coveredFraction", desc := "()F" } : Jvm.MethodName) ∈ gw := gw_t4 168 rfl rfl
theorem lk892 : Cond.methodLink "GuardRosterLaw" (280 : Nat) ({ cls := "GuardRosterLaw", name := "writeSlot", desc := "(LGuardRoster;I[J)I" } : Jvm.MethodName) ∈ gw := gw_t4 172 rfl rfl
theorem lk893 : Cond.static ({ cls := "GuardRosterLaw", name := "writeSlot", desc := "(LGuardRoster;I[J)I" } : Jvm.MethodName) ∈ gw := gw_t4 173 rfl rfl
theorem lk895 : Cond.methodLink "GuardRosterLaw" (117 : Nat) ({ cls := "GuardRoster", name := "writeSlot", desc := "(I)I" } : Jvm.MethodName) ∈ gw := gw_t4 175 rfl rfl
theorem lk896 : Cond.instanceMethod ({ cls := "GuardRoster", name := "writeSlot", desc := "(I)I" } : Jvm.MethodName) ∈ gw := gw_t4 176 rfl rfl
theorem lk899 : Cond.methodLink "GuardRoster" (256 : Nat) ({ cls := "GuardRoster", name := "put", desc := "(C)V" } : Jvm.MethodName) ∈ gw := gw_t4 179 rfl rfl
theorem lk901 : Cond.instanceMethod ({ cls := "GuardRoster", name := "put", desc := "(C)V" } : Jvm.MethodName) ∈ gw := gw_t4 181 rfl rfl
theorem lk903 : Cond.methodLink "GuardRoster" (260 : Nat) ({ cls := "GuardRoster", name := "putNumber", desc := "(I)V" } : Jvm.MethodName) ∈ gw := gw_t4 183 rfl rfl
theorem lk905 : Cond.instanceMethod ({ cls := "GuardRoster", name := "putNumber", desc := "(I)V" } : Jvm.MethodName) ∈ gw := gw_t4 185 rfl rfl
theorem lk907 : Cond.methodLink "GuardRoster" (263 : Nat) ({ cls := "GuardRoster", name := "putNumberOr", desc := "(IC)V" } : Jvm.MethodName) ∈ gw := gw_t4 187 rfl rfl
theorem lk909 : Cond.instanceMethod ({ cls := "GuardRoster", name := "putNumberOr", desc := "(IC)V" } : Jvm.MethodName) ∈ gw := gw_t4 189 rfl rfl
theorem lk911 : Cond.methodLink "GuardRosterLaw" (283 : Nat) ({ cls := "GuardRosterLaw", name := "writeGuard", desc := "(LGuardRoster;I[J)I" } : Jvm.MethodName) ∈ gw := gw_t4 191 rfl rfl
theorem lk912 : Cond.static ({ cls := "GuardRosterLaw", name := "writeGuard", desc := "(LGuardRoster;I[J)I" } : Jvm.MethodName) ∈ gw := gw_t4 192 rfl rfl
theorem lk914 : Cond.methodLink "GuardRosterLaw" (120 : Nat) ({ cls := "GuardRoster", name := "writeGuard", desc := "(I)I" } : Jvm.MethodName) ∈ gw := gw_t4 194 rfl rfl
theorem lk915 : Cond.instanceMethod ({ cls := "GuardRoster", name := "writeGuard", desc := "(I)I" } : Jvm.MethodName) ∈ gw := gw_t4 195 rfl rfl
theorem lk918 : Cond.methodLink "GuardRosterLaw" (286 : Nat) ({ cls := "GuardRosterLaw", name := "outputCharacter", desc := "(LGuardRoster;I[J)I" } : Jvm.MethodName) ∈ gw := gw_t4 198 rfl rfl
theorem lk919 : Cond.static ({ cls := "GuardRosterLaw", name := "outputCharacter", desc := "(LGuardRoster;I[J)I" } : Jvm.MethodName) ∈ gw := gw_t4 199 rfl rfl
theorem lk921 : Cond.methodLink "GuardRosterLaw" (123 : Nat) ({ cls := "GuardRoster", name := "outputCharacter", desc := "(I)C" } : Jvm.MethodName) ∈ gw := gw_t4 201 rfl rfl
theorem lk922 : Cond.instanceMethod ({ cls := "GuardRoster", name := "outputCharacter", desc := "(I)C" } : Jvm.MethodName) ∈ gw := gw_t4 202 rfl rfl
theorem lk926 : Cond.methodLink "GuardRosterLaw" (294 : Nat) ({ cls := "GuardRosterLaw", name := "feed", desc := "(LGuardRoster;C[J)I" } : Jvm.MethodName) ∈ gw := gw_t4 206 rfl rfl
theorem lk927 : Cond.static ({ cls := "GuardRosterLaw", name := "feed", desc := "(LGuardRoster;C[J)I" } : Jvm.MethodName) ∈ gw := gw_t4 207 rfl rfl
theorem lk929 : Cond.methodLink "GuardRosterLaw" (127 : Nat) ({ cls := "GuardRoster", name := "feed", desc := "(C)I" } : Jvm.MethodName) ∈ gw := gw_t4 209 rfl rfl
theorem lk930 : Cond.instanceMethod ({ cls := "GuardRoster", name := "feed", desc := "(C)I" } : Jvm.MethodName) ∈ gw := gw_t4 210 rfl rfl
theorem lk933 : Cond.methodLink "GuardRoster" (285 : Nat) ({ cls := "GuardRoster$CommandText", name := "isFull", desc := "()Z" } : Jvm.MethodName) ∈ gw := gw_t4 213 rfl rfl
theorem lk934 : Cond.instanceMethod ({ cls := "GuardRoster$CommandText", name := "isFull", desc := "()Z" } : Jvm.MethodName) ∈ gw := gw_t4 214 rfl rfl
theorem lk938 : Cond.methodLink "GuardRoster" (293 : Nat) ({ cls := "GuardRoster$CommandText", name := "append", desc := "(C)I" } : Jvm.MethodName) ∈ gw := gw_t4 218 rfl rfl
theorem lk939 : Cond.instanceMethod ({ cls := "GuardRoster$CommandText", name := "append", desc := "(C)I" } : Jvm.MethodName) ∈ gw := gw_t4 219 rfl rfl
theorem lk942 : Cond.methodLink "GuardRosterLaw" (298 : Nat) ({ cls := "GuardRosterLaw", name := "execute", desc := "(LGuardRoster;[J)I" } : Jvm.MethodName) ∈ gw := gw_t4 222 rfl rfl
theorem lk943 : Cond.static ({ cls := "GuardRosterLaw", name := "execute", desc := "(LGuardRoster;[J)I" } : Jvm.MethodName) ∈ gw := gw_t4 223 rfl rfl
theorem lk945 : Cond.methodLink "GuardRosterLaw" (131 : Nat) ({ cls := "GuardRoster", name := "execute", desc := "()I" } : Jvm.MethodName) ∈ gw := gw_t4 225 rfl rfl
theorem lk946 : Cond.instanceMethod ({ cls := "GuardRoster", name := "execute", desc := "()I" } : Jvm.MethodName) ∈ gw := gw_t4 226 rfl rfl
theorem lk949 : Cond.methodLink "GuardRoster" (297 : Nat) ({ cls := "GuardRoster$CommandText", name := "parse", desc := "()Z" } : Jvm.MethodName) ∈ gw := gw_t4 229 rfl rfl
theorem lk950 : Cond.instanceMethod ({ cls := "GuardRoster$CommandText", name := "parse", desc := "()Z" } : Jvm.MethodName) ∈ gw := gw_t4 230 rfl rfl
theorem lk953 : Cond.methodLink "GuardRoster$CommandText" (32 : Nat) ({ cls := "GuardRoster$CommandText", name := "readCommand", desc := "(I)I" } : Jvm.MethodName) ∈ gw := gw_t4 233 rfl rfl
theorem lk955 : Cond.instanceMethod ({ cls := "GuardRoster$CommandText", name := "readCommand", desc := "(I)I" } : Jvm.MethodName) ∈ gw := gw_t4 235 rfl rfl
theorem lk957 : Cond.methodLink "GuardRoster$CommandText" (39 : Nat) ({ cls := "GuardRoster$CommandText", name := "shapeOf", desc := "(I)Ljava/lang/String;" } : Jvm.MethodName) ∈ gw := gw_t4 237 rfl rfl
theorem lk958 : Cond.static ({ cls := "GuardRoster$CommandText", name := "shapeOf", desc := "(I)Ljava/lang/String;" } : Jvm.MethodName) ∈ gw := gw_t4 238 rfl rfl
theorem lk968 : Cond.methodLink "GuardRoster$CommandText" (43 : Nat) ({ cls := "GuardRoster$CommandText", name := "readShape", desc := "(Ljava/lang/String;I)I" } : Jvm.MethodName) ∈ gw := gw_t5 8 rfl rfl
theorem lk970 : Cond.instanceMethod ({ cls := "GuardRoster$CommandText", name := "readShape", desc := "(Ljava/lang/String;I)I" } : Jvm.MethodName) ∈ gw := gw_t5 10 rfl rfl
theorem lk972 : Cond.methodLink "GuardRoster$CommandText" (69 : Nat) ({ cls := "java/lang/String", name := "length", desc := "()I" } : Jvm.MethodName) ∈ gw := gw_t5 12 rfl rfl
theorem lk973 : Cond.instanceMethod ({ cls := "java/lang/String", name := "length", desc := "()I" } : Jvm.MethodName) ∈ gw := gw_t5 13 rfl rfl
theorem lk976 : Cond.methodLink "java/lang/String" (335 : Nat) ({ cls := "java/lang/String", name := "coder", desc := "()B" } : Jvm.MethodName) ∈ gw := gw_t5 16 rfl rfl
theorem lk977 : Cond.instanceMethod ({ cls := "java/lang/String", name := "coder", desc := "()B" } : Jvm.MethodName) ∈ gw := gw_t5 17 rfl rfl
theorem lk980 : Cond.fieldLink "java/lang/String" (38 : Nat) "java/lang/String" "COMPACT_STRINGS" "Z" ∈ gw := gw_t5 20 rfl rfl
theorem lk982 : Cond.methodLink "GuardRoster$CommandText" (74 : Nat) ({ cls := "java/lang/String", name := "charAt", desc := "(I)C" } : Jvm.MethodName) ∈ gw := gw_t5 22 rfl rfl
theorem lk983 : Cond.instanceMethod ({ cls := "java/lang/String", name := "charAt", desc := "(I)C" } : Jvm.MethodName) ∈ gw := gw_t5 23 rfl rfl
theorem lk986 : Cond.methodLink "java/lang/String" (492 : Nat) ({ cls := "java/lang/String", name := "isLatin1", desc := "()Z" } : Jvm.MethodName) ∈ gw := gw_t5 26 rfl rfl
theorem lk987 : Cond.instanceMethod ({ cls := "java/lang/String", name := "isLatin1", desc := "()Z" } : Jvm.MethodName) ∈ gw := gw_t5 27 rfl rfl
theorem lk990 : Cond.methodLink "java/lang/String" (495 : Nat) ({ cls := "java/lang/StringLatin1", name := "charAt", desc := "([BI)C" } : Jvm.MethodName) ∈ gw := gw_t5 30 rfl rfl
theorem lk991 : Cond.static ({ cls := "java/lang/StringLatin1", name := "charAt", desc := "([BI)C" } : Jvm.MethodName) ∈ gw := gw_t5 31 rfl rfl
theorem lk993 : Cond.methodLink "java/lang/StringLatin1" (9 : Nat) ({ cls := "java/lang/String", name := "checkIndex", desc := "(II)V" } : Jvm.MethodName) ∈ gw := gw_t5 33 rfl rfl
theorem lk994 : Cond.static ({ cls := "java/lang/String", name := "checkIndex", desc := "(II)V" } : Jvm.MethodName) ∈ gw := gw_t5 34 rfl rfl
theorem lk996 : Cond.fieldLink "java/lang/String" (1053 : Nat) "jdk/internal/util/Preconditions" "SIOOBE_FORMATTER" "Ljava/util/function/BiFunction;" ∈ gw := gw_t5 36 rfl rfl
theorem lk998 : Cond.methodLink "java/lang/String" (1059 : Nat) ({ cls := "jdk/internal/util/Preconditions", name := "checkIndex", desc := "(IILjava/util/function/BiFunction;)I" } : Jvm.MethodName) ∈ gw := gw_t5 38 rfl rfl
theorem lk999 : Cond.static ({ cls := "jdk/internal/util/Preconditions", name := "checkIndex", desc := "(IILjava/util/function/BiFunction;)I" } : Jvm.MethodName) ∈ gw := gw_t5 39 rfl rfl
theorem lk1001 : Cond.methodLink "java/lang/String" (498 : Nat) ({ cls := "java/lang/StringUTF16", name := "charAt", desc := "([BI)C" } : Jvm.MethodName) ∈ gw := gw_t5 41 rfl rfl
theorem lk1002 : Cond.static ({ cls := "java/lang/StringUTF16", name := "charAt", desc := "([BI)C" } : Jvm.MethodName) ∈ gw := gw_t5 42 rfl rfl
theorem lk1004 : Cond.methodLink "java/lang/StringUTF16" (67 : Nat) ({ cls := "java/lang/StringUTF16", name := "checkIndex", desc := "(I[B)V" } : Jvm.MethodName) ∈ gw := gw_t5 44 rfl rfl
theorem lk1005 : Cond.static ({ cls := "java/lang/StringUTF16", name := "checkIndex", desc := "(I[B)V" } : Jvm.MethodName) ∈ gw := gw_t5 45 rfl rfl
theorem lk1007 : Cond.methodLink "java/lang/StringUTF16" (48 : Nat) ({ cls := "java/lang/StringUTF16", name := "length", desc := "([B)I" } : Jvm.MethodName) ∈ gw := gw_t5 47 rfl rfl
theorem lk1008 : Cond.static ({ cls := "java/lang/StringUTF16", name := "length", desc := "([B)I" } : Jvm.MethodName) ∈ gw := gw_t5 48 rfl rfl
theorem lk1010 : Cond.methodLink "java/lang/StringUTF16" (414 : Nat) ({ cls := "java/lang/String", name := "checkIndex", desc := "(II)V" } : Jvm.MethodName) ∈ gw := gw_t5 50 rfl rfl
theorem lk1011 : Cond.methodLink "java/lang/StringUTF16" (71 : Nat) ({ cls := "java/lang/StringUTF16", name := "getChar", desc := "([BI)C" } : Jvm.MethodName) ∈ gw := gw_t5 51 rfl rfl
theorem lk1012 : Cond.static ({ cls := "java/lang/StringUTF16", name := "getChar", desc := "([BI)C" } : Jvm.MethodName) ∈ gw := gw_t5 52 rfl rfl
theorem lk1014 : Cond.fieldLink "java/lang/StringUTF16" (44 : Nat) "java/lang/StringUTF16" "$assertionsDisabled" "Z" ∈ gw := gw_t5 54 rfl rfl
theorem lk1016 : Cond.fieldLink "java/lang/StringUTF16" (59 : Nat) "java/lang/StringUTF16" "HI_BYTE_SHIFT" "I" ∈ gw := gw_t5 56 rfl rfl
theorem lk1018 : Cond.fieldLink "java/lang/StringUTF16" (63 : Nat) "java/lang/StringUTF16" "LO_BYTE_SHIFT" "I" ∈ gw := gw_t5 58 rfl rfl
theorem lk1020 : Cond.methodLink "GuardRoster$CommandText" (36 : Nat) ({ cls := "GuardRoster$CommandText", name := "characterAt", desc := "(I)I" } : Jvm.MethodName) ∈ gw := gw_t5 60 rfl rfl
theorem lk1022 : Cond.instanceMethod ({ cls := "GuardRoster$CommandText", name := "characterAt", desc := "(I)I" } : Jvm.MethodName) ∈ gw := gw_t5 62 rfl rfl
theorem lk1024 : Cond.methodLink "GuardRoster$CommandText" (78 : Nat) ({ cls := "GuardRoster$CommandText", name := "isDigit", desc := "(I)Z" } : Jvm.MethodName) ∈ gw := gw_t5 64 rfl rfl
theorem lk1025 : Cond.static ({ cls := "GuardRoster$CommandText", name := "isDigit", desc := "(I)Z" } : Jvm.MethodName) ∈ gw := gw_t5 65 rfl rfl
theorem lk1027 : Cond.methodLink "GuardRoster$CommandText" (82 : Nat) ({ cls := "GuardRoster$CommandText", name := "keepValue", desc := "(II)V" } : Jvm.MethodName) ∈ gw := gw_t5 67 rfl rfl
theorem lk1029 : Cond.instanceMethod ({ cls := "GuardRoster$CommandText", name := "keepValue", desc := "(II)V" } : Jvm.MethodName) ∈ gw := gw_t5 69 rfl rfl
theorem lk1031 : Cond.methodLink "GuardRoster$CommandText" (47 : Nat) ({ cls := "java/lang/Math", name := "max", desc := "(II)I" } : Jvm.MethodName) ∈ gw := gw_t5 71 rfl rfl
theorem lk1032 : Cond.methodLink "GuardRoster" (300 : Nat) ({ cls := "GuardRoster$CommandText", name := "empty", desc := "()V" } : Jvm.MethodName) ∈ gw := gw_t5 72 rfl rfl
theorem lk1033 : Cond.instanceMethod ({ cls := "GuardRoster$CommandText", name := "empty", desc := "()V" } : Jvm.MethodName) ∈ gw := gw_t5 73 rfl rfl
theorem lk1036 : Cond.methodLink "GuardRoster" (303 : Nat) ({ cls := "GuardRoster$CommandText", name := "firstWrong", desc := "()I" } : Jvm.MethodName) ∈ gw := gw_t5 76 rfl rfl
theorem lk1037 : Cond.instanceMethod ({ cls := "GuardRoster$CommandText", name := "firstWrong", desc := "()I" } : Jvm.MethodName) ∈ gw := gw_t5 77 rfl rfl
theorem lk1041 : Cond.methodLink "GuardRoster" (311 : Nat) ({ cls := "GuardRoster$History", name := "begin", desc := "(LGuardRoster$Roster;)V" } : Jvm.MethodName) ∈ gw := gw_t5 81 rfl rfl
theorem lk1042 : Cond.methodLink "GuardRoster" (314 : Nat) ({ cls := "GuardRoster$CommandText", name := "commands", desc := "()I" } : Jvm.MethodName) ∈ gw := gw_t5 82 rfl rfl
theorem lk1043 : Cond.instanceMethod ({ cls := "GuardRoster$CommandText", name := "commands", desc := "()I" } : Jvm.MethodName) ∈ gw := gw_t5 83 rfl rfl
theorem lk1046 : Cond.methodLink "GuardRoster" (317 : Nat) ({ cls := "GuardRoster", name := "runs", desc := "(I)Z" } : Jvm.MethodName) ∈ gw := gw_t5 86 rfl rfl
theorem lk1048 : Cond.instanceMethod ({ cls := "GuardRoster", name := "runs", desc := "(I)Z" } : Jvm.MethodName) ∈ gw := gw_t5 88 rfl rfl
theorem lk1050 : Cond.methodLink "GuardRoster" (393 : Nat) ({ cls := "GuardRoster$CommandText", name := "kind", desc := "(I)I" } : Jvm.MethodName) ∈ gw := gw_t5 90 rfl rfl
theorem lk1051 : Cond.instanceMethod ({ cls := "GuardRoster$CommandText", name := "kind", desc := "(I)I" } : Jvm.MethodName) ∈ gw := gw_t5 91 rfl rfl
theorem lk1054 : Cond.methodLink "GuardRoster" (396 : Nat) ({ cls := "GuardRoster$CommandText", name := "value", desc := "(II)I" } : Jvm.MethodName) ∈ gw := gw_t5 94 rfl rfl
theorem lk1055 : Cond.instanceMethod ({ cls := "GuardRoster$CommandText", name := "value", desc := "(II)I" } : Jvm.MethodName) ∈ gw := gw_t5 95 rfl rfl
theorem lk1058 : Cond.methodLink "GuardRoster" (399 : Nat) ({ cls := "GuardRoster", name := "problemOfCommand", desc := "(IIII)I" } : Jvm.MethodName) ∈ gw := gw_t5 98 rfl rfl
theorem lk1060 : Cond.instanceMethod ({ cls := "GuardRoster", name := "problemOfCommand", desc := "(IIII)I" } : Jvm.MethodName) ∈ gw := gw_t5 100 rfl rfl
theorem lk1062 : Cond.methodLink "GuardRoster" (402 : Nat) ({ cls := "GuardRoster", name := "carryOut", desc := "(IIII)V" } : Jvm.MethodName) ∈ gw := gw_t5 102 rfl rfl
theorem lk1064 : Cond.instanceMethod ({ cls := "GuardRoster", name := "carryOut", desc := "(IIII)V" } : Jvm.MethodName) ∈ gw := gw_t5 104 rfl rfl
theorem lk1066 : Cond.methodLink "GuardRoster" (320 : Nat) ({ cls := "GuardRoster$History", name := "backOut", desc := "(LGuardRoster$Roster;)V" } : Jvm.MethodName) ∈ gw := gw_t5 106 rfl rfl
theorem lk1067 : Cond.instanceMethod ({ cls := "GuardRoster$History", name := "backOut", desc := "(LGuardRoster$Roster;)V" } : Jvm.MethodName) ∈ gw := gw_t5 107 rfl rfl
theorem lk1070 : Cond.methodLink "GuardRoster$History" (42 : Nat) ({ cls := "GuardRoster$Roster", name := "copyFrom", desc := "([I)V" } : Jvm.MethodName) ∈ gw := gw_t5 110 rfl rfl
theorem lk1071 : Cond.instanceMethod ({ cls := "GuardRoster$Roster", name := "copyFrom", desc := "([I)V" } : Jvm.MethodName) ∈ gw := gw_t5 111 rfl rfl
theorem lk1075 : Cond.methodLink "GuardRoster" (328 : Nat) ({ cls := "GuardRoster$History", name := "end", desc := "()V" } : Jvm.MethodName) ∈ gw := gw_t5 115 rfl rfl
theorem lk1076 : Cond.methodLink "GuardRosterLaw" (301 : Nat) ({ cls := "GuardRosterLaw", name := "errorPosition", desc := "(LGuardRoster;[J)I" } : Jvm.MethodName) ∈ gw := gw_t5 116 rfl rfl
theorem lk1077 : Cond.static ({ cls := "GuardRosterLaw", name := "errorPosition", desc := "(LGuardRoster;[J)I" } : Jvm.MethodName) ∈ gw := gw_t5 117 rfl rfl
theorem lk1079 : Cond.methodLink "GuardRosterLaw" (134 : Nat) ({ cls := "GuardRoster", name := "errorPosition", desc := "()I" } : Jvm.MethodName) ∈ gw := gw_t5 119 rfl rfl
theorem lk1080 : Cond.instanceMethod ({ cls := "GuardRoster", name := "errorPosition", desc := "()I" } : Jvm.MethodName) ∈ gw := gw_t5 120 rfl rfl
theorem lk1084 : Cond.methodLink "GuardRosterLaw" (304 : Nat) ({ cls := "GuardRosterLaw", name := "failedCommand", desc := "(LGuardRoster;[J)I" } : Jvm.MethodName) ∈ gw := gw_t5 124 rfl rfl
theorem lk1085 : Cond.static ({ cls := "GuardRosterLaw", name := "failedCommand", desc := "(LGuardRoster;[J)I" } : Jvm.MethodName) ∈ gw := gw_t5 125 rfl rfl
theorem lk1087 : Cond.methodLink "GuardRosterLaw" (137 : Nat) ({ cls := "GuardRoster", name := "failedCommand", desc := "()I" } : Jvm.MethodName) ∈ gw := gw_t5 127 rfl rfl
theorem lk1088 : Cond.instanceMethod ({ cls := "GuardRoster", name := "failedCommand", desc := "()I" } : Jvm.MethodName) ∈ gw := gw_t5 128 rfl rfl
theorem lk1092 : Cond.methodLink "GuardRosterLaw" (307 : Nat) ({ cls := "GuardRosterLaw", name := "undo", desc := "(LGuardRoster;[J)I" } : Jvm.MethodName) ∈ gw := gw_t5 132 rfl rfl
theorem lk1093 : Cond.static ({ cls := "GuardRosterLaw", name := "undo", desc := "(LGuardRoster;[J)I" } : Jvm.MethodName) ∈ gw := gw_t5 133 rfl rfl
theorem lk1095 : Cond.methodLink "GuardRosterLaw" (140 : Nat) ({ cls := "GuardRoster", name := "undo", desc := "()I" } : Jvm.MethodName) ∈ gw := gw_t5 135 rfl rfl
theorem lk1096 : Cond.instanceMethod ({ cls := "GuardRoster", name := "undo", desc := "()I" } : Jvm.MethodName) ∈ gw := gw_t5 136 rfl rfl
theorem lk1100 : Cond.methodLink "GuardRoster" (340 : Nat) ({ cls := "GuardRoster$History", name := "takeBack", desc := "(LGuardRoster$Roster;)V" } : Jvm.MethodName) ∈ gw := gw_t5 140 rfl rfl
theorem lk1101 : Cond.instanceMethod ({ cls := "GuardRoster$History", name := "takeBack", desc := "(LGuardRoster$Roster;)V" } : Jvm.MethodName) ∈ gw := gw_t5 141 rfl rfl
theorem lk1104 : Cond.methodLink "GuardRoster$History" (45 : Nat) ({ cls := "GuardRoster$History", name := "backOut", desc := "(LGuardRoster$Roster;)V" } : Jvm.MethodName) ∈ gw := gw_t5 144 rfl rfl
theorem lk1105 : Cond.methodLink "GuardRosterLaw" (318 : Nat) ({ cls := "GuardRosterLaw", name := "restore", desc := "(LGuardRoster;[J)I" } : Jvm.MethodName) ∈ gw := gw_t5 145 rfl rfl
theorem lk1106 : Cond.static ({ cls := "GuardRosterLaw", name := "restore", desc := "(LGuardRoster;[J)I" } : Jvm.MethodName) ∈ gw := gw_t5 146 rfl rfl
theorem lk1108 : Cond.methodLink "GuardRosterLaw" (143 : Nat) ({ cls := "GuardRoster", name := "restore", desc := "()I" } : Jvm.MethodName) ∈ gw := gw_t5 148 rfl rfl
theorem lk1109 : Cond.instanceMethod ({ cls := "GuardRoster", name := "restore", desc := "()I" } : Jvm.MethodName) ∈ gw := gw_t5 149 rfl rfl
theorem lk1113 : Cond.methodLink "GuardRoster" (353 : Nat) ({ cls := "GuardRoster$Roster", name := "copyFrom", desc := "([I)V" } : Jvm.MethodName) ∈ gw := gw_t5 153 rfl rfl
theorem lk1114 : Cond.methodLink "GuardRoster" (356 : Nat) ({ cls := "GuardRoster$History", name := "forget", desc := "()V" } : Jvm.MethodName) ∈ gw := gw_t5 154 rfl rfl
theorem lk1115 : Cond.instanceMethod ({ cls := "GuardRoster$History", name := "forget", desc := "()V" } : Jvm.MethodName) ∈ gw := gw_t5 155 rfl rfl
theorem lk1118 : Cond.classLink "GuardRosterLaw" (147 : Nat) "GuardRosterModel" ∈ gw := gw_t5 158 rfl rfl
theorem lk1119 : Cond.instantiable "GuardRosterModel" (21 : Nat) ∈ gw := gw_t5 159 rfl rfl
theorem lk1120 : Cond.methodLink "GuardRosterLaw" (149 : Nat) ({ cls := "GuardRosterModel", name := "<init>", desc := "()V" } : Jvm.MethodName) ∈ gw := gw_t5 160 rfl rfl
theorem lk1121 : Cond.instanceMethod ({ cls := "GuardRosterModel", name := "<init>", desc := "()V" } : Jvm.MethodName) ∈ gw := gw_t5 161 rfl rfl
theorem lk1123 : Cond.methodLink "GuardRosterModel" (1 : Nat) ({ cls := "java/lang/Object", name := "<init>", desc := "()V" } : Jvm.MethodName) ∈ gw := gw_t5 163 rfl rfl
theorem lk1124 : Cond.fieldLink "GuardRosterModel" (7 : Nat) "GuardRosterModel" "g" "[I" ∈ gw := gw_t5 164 rfl rfl
theorem lk1125 : Cond.fieldLink "GuardRosterModel" (13 : Nat) "GuardRosterModel" "kept" "[I" ∈ gw := gw_t5 165 rfl rfl
theorem lk1126 : Cond.fieldLink "GuardRosterModel" (16 : Nat) "GuardRosterModel" "saved" "[I" ∈ gw := gw_t5 166 rfl rfl
theorem lk1127 : Cond.fieldLink "GuardRosterModel" (19 : Nat) "GuardRosterModel" "before" "[I" ∈ gw := gw_t5 167 rfl rfl
theorem lk1128 : Cond.fieldLink "GuardRosterModel" (246 : Nat) "GuardRosterModel" "isSaved" "Z" ∈ gw := gw_t5 168 rfl rfl
theorem lk1129 : Cond.fieldLink "GuardRosterModel" (49 : Nat) "GuardRosterModel" "changes" "I" ∈ gw := gw_t5 169 rfl rfl
theorem lk1130 : Cond.fieldLink "GuardRosterModel" (45 : Nat) "GuardRosterModel" "isWithin" "Z" ∈ gw := gw_t5 170 rfl rfl
theorem lk1131 : Cond.fieldLink "GuardRosterModel" (42 : Nat) "GuardRosterModel" "code" "I" ∈ gw := gw_t5 171 rfl rfl
theorem lk1132 : Cond.fieldLink "GuardRosterModel" (102 : Nat) "GuardRosterModel" "why" "I" ∈ gw := gw_t5 172 rfl rfl
theorem lk1133 : Cond.fieldLink "GuardRosterModel" (105 : Nat) "GuardRosterModel" "detail" "I" ∈ gw := gw_t5 173 rfl rfl
theorem lk1134 : Cond.fieldLink "GuardRosterModel" (22 : Nat) "GuardRosterModel" "input" "[I" ∈ gw := gw_t5 174 rfl rfl
theorem lk1135 : Cond.fieldLink "GuardRosterModel" (160 : Nat) "GuardRosterModel" "length" "I" ∈ gw := gw_t5 175 rfl rfl
theorem lk1136 : Cond.fieldLink "GuardRosterModel" (25 : Nat) "GuardRosterModel" "error" "I" ∈ gw := gw_t5 176 rfl rfl
theorem lk1137 : Cond.fieldLink "GuardRosterModel" (29 : Nat) "GuardRosterModel" "failed" "I" ∈ gw := gw_t5 177 rfl rfl
theorem lk1138 : Cond.fieldLink "GuardRosterModel" (32 : Nat) "GuardRosterModel" "signs" "[C" ∈ gw := gw_t5 178 rfl rfl
theorem lk1139 : Cond.fieldLink "GuardRosterModel" (153 : Nat) "GuardRosterModel" "signMany" "I" ∈ gw := gw_t5 179 rfl rfl
theorem lk1140 : Cond.fieldLink "GuardRosterModel" (88 : Nat) "GuardRosterModel" "told" "I" ∈ gw := gw_t5 180 rfl rfl
theorem lk1141 : Cond.fieldLink "GuardRosterModel" (36 : Nat) "GuardRosterModel" "best" "[I" ∈ gw := gw_t5 181 rfl rfl
theorem lk1142 : Cond.fieldLink "GuardRosterModel" (163 : Nat) "GuardRosterModel" "at" "I" ∈ gw := gw_t5 182 rfl rfl
theorem lk1143 : Cond.fieldLink "GuardRosterModel" (39 : Nat) "GuardRosterModel" "orders" "[I" ∈ gw := gw_t5 183 rfl rfl
theorem lk1144 : Cond.fieldLink "GuardRosterModel" (169 : Nat) "GuardRosterModel" "orderMany" "I" ∈ gw := gw_t5 184 rfl rfl
theorem lk1188 : Cond.methodLink "GuardRosterLaw" (156 : Nat) ({ cls := "GuardRosterModel", name := "thrown", desc := "()I" } : Jvm.MethodName) ∈ gw := gw_t5 228 rfl rfl
theorem lk1189 : Cond.instanceMethod ({ cls := "GuardRosterModel", name := "thrown", desc := "()I" } : Jvm.MethodName) ∈ gw := gw_t5 229 rfl rfl
theorem lk1192 : Cond.methodLink "GuardRosterLaw" (155 : Nat) ({ cls := "GuardRosterModel", name := "addGate", desc := "(I)I" } : Jvm.MethodName) ∈ gw := gw_t5 232 rfl rfl
theorem lk1193 : Cond.instanceMethod ({ cls := "GuardRosterModel", name := "addGate", desc := "(I)I" } : Jvm.MethodName) ∈ gw := gw_t5 233 rfl rfl
theorem lk1196 : Cond.methodLink "GuardRosterModel" (56 : Nat) ({ cls := "GuardRosterModel", name := "in", desc := "(III)Z" } : Jvm.MethodName) ∈ gw := gw_t5 236 rfl rfl
theorem lk1197 : Cond.static ({ cls := "GuardRosterModel", name := "in", desc := "(III)Z" } : Jvm.MethodName) ∈ gw := gw_t5 237 rfl rfl
theorem lk1199 : Cond.methodLink "GuardRosterModel" (71 : Nat) ({ cls := "GuardRosterModel", name := "fails", desc := "(I)Z" } : Jvm.MethodName) ∈ gw := gw_t5 239 rfl rfl
theorem lk1201 : Cond.instanceMethod ({ cls := "GuardRosterModel", name := "fails", desc := "(I)Z" } : Jvm.MethodName) ∈ gw := gw_t6 1 rfl rfl
theorem lk1203 : Cond.methodLink "GuardRosterModel" (74 : Nat) ({ cls := "GuardRosterModel", name := "keeps", desc := "([I)V" } : Jvm.MethodName) ∈ gw := gw_t6 3 rfl rfl
theorem lk1205 : Cond.instanceMethod ({ cls := "GuardRosterModel", name := "keeps", desc := "([I)V" } : Jvm.MethodName) ∈ gw := gw_t6 5 rfl rfl
theorem lk1207 : Cond.methodLink "GuardRosterModel" (52 : Nat) ({ cls := "GuardRosterModel", name := "copies", desc := "([II[II)V" } : Jvm.MethodName) ∈ gw := gw_t6 7 rfl rfl
theorem lk1208 : Cond.static ({ cls := "GuardRosterModel", name := "copies", desc := "([II[II)V" } : Jvm.MethodName) ∈ gw := gw_t6 8 rfl rfl
theorem lk1210 : Cond.methodLink "GuardRosterLaw" (161 : Nat) ({ cls := "GuardRosterModel", name := "addGuard", desc := "(I)I" } : Jvm.MethodName) ∈ gw := gw_t6 10 rfl rfl
theorem lk1211 : Cond.instanceMethod ({ cls := "GuardRosterModel", name := "addGuard", desc := "(I)I" } : Jvm.MethodName) ∈ gw := gw_t6 11 rfl rfl
theorem lk1214 : Cond.methodLink "GuardRosterLaw" (165 : Nat) ({ cls := "GuardRosterModel", name := "gateCount", desc := "()I" } : Jvm.MethodName) ∈ gw := gw_t6 14 rfl rfl
theorem lk1215 : Cond.instanceMethod ({ cls := "GuardRosterModel", name := "gateCount", desc := "()I" } : Jvm.MethodName) ∈ gw := gw_t6 15 rfl rfl
theorem lk1218 : Cond.methodLink "GuardRosterLaw" (169 : Nat) ({ cls := "GuardRosterModel", name := "guardCount", desc := "()I" } : Jvm.MethodName) ∈ gw := gw_t6 18 rfl rfl
theorem lk1219 : Cond.instanceMethod ({ cls := "GuardRosterModel", name := "guardCount", desc := "()I" } : Jvm.MethodName) ∈ gw := gw_t6 19 rfl rfl
theorem lk1222 : Cond.methodLink "GuardRosterLaw" (172 : Nat) ({ cls := "GuardRosterModel", name := "neededRank", desc := "(I)I" } : Jvm.MethodName) ∈ gw := gw_t6 22 rfl rfl
theorem lk1223 : Cond.instanceMethod ({ cls := "GuardRosterModel", name := "neededRank", desc := "(I)I" } : Jvm.MethodName) ∈ gw := gw_t6 23 rfl rfl
theorem lk1226 : Cond.methodLink "GuardRosterModel" (60 : Nat) ({ cls := "GuardRosterModel", name := "isGate", desc := "(I)Z" } : Jvm.MethodName) ∈ gw := gw_t6 26 rfl rfl
theorem lk1228 : Cond.instanceMethod ({ cls := "GuardRosterModel", name := "isGate", desc := "(I)Z" } : Jvm.MethodName) ∈ gw := gw_t6 28 rfl rfl
theorem lk1230 : Cond.methodLink "GuardRosterLaw" (175 : Nat) ({ cls := "GuardRosterModel", name := "rank", desc := "(I)I" } : Jvm.MethodName) ∈ gw := gw_t6 30 rfl rfl
theorem lk1231 : Cond.instanceMethod ({ cls := "GuardRosterModel", name := "rank", desc := "(I)I" } : Jvm.MethodName) ∈ gw := gw_t6 31 rfl rfl
theorem lk1234 : Cond.methodLink "GuardRosterModel" (81 : Nat) ({ cls := "GuardRosterModel", name := "isNone", desc := "(I)Z" } : Jvm.MethodName) ∈ gw := gw_t6 34 rfl rfl
theorem lk1236 : Cond.instanceMethod ({ cls := "GuardRosterModel", name := "isNone", desc := "(I)Z" } : Jvm.MethodName) ∈ gw := gw_t6 36 rfl rfl
theorem lk1238 : Cond.methodLink "GuardRosterModel" (78 : Nat) ({ cls := "GuardRosterModel", name := "isGuard", desc := "(I)Z" } : Jvm.MethodName) ∈ gw := gw_t6 38 rfl rfl
theorem lk1240 : Cond.instanceMethod ({ cls := "GuardRosterModel", name := "isGuard", desc := "(I)Z" } : Jvm.MethodName) ∈ gw := gw_t6 40 rfl rfl
theorem lk1242 : Cond.methodLink "GuardRosterModel" (84 : Nat) ({ cls := "GuardRosterModel", name := "ranked", desc := "(I)I" } : Jvm.MethodName) ∈ gw := gw_t6 42 rfl rfl
theorem lk1244 : Cond.instanceMethod ({ cls := "GuardRosterModel", name := "ranked", desc := "(I)I" } : Jvm.MethodName) ∈ gw := gw_t6 44 rfl rfl
theorem lk1246 : Cond.methodLink "GuardRosterLaw" (178 : Nat) ({ cls := "GuardRosterModel", name := "faints", desc := "(I)I" } : Jvm.MethodName) ∈ gw := gw_t6 46 rfl rfl
theorem lk1247 : Cond.instanceMethod ({ cls := "GuardRosterModel", name := "faints", desc := "(I)I" } : Jvm.MethodName) ∈ gw := gw_t6 47 rfl rfl
theorem lk1250 : Cond.methodLink "GuardRosterLaw" (182 : Nat) ({ cls := "GuardRosterModel", name := "assign", desc := "(III)I" } : Jvm.MethodName) ∈ gw := gw_t6 50 rfl rfl
theorem lk1251 : Cond.instanceMethod ({ cls := "GuardRosterModel", name := "assign", desc := "(III)I" } : Jvm.MethodName) ∈ gw := gw_t6 51 rfl rfl
theorem lk1254 : Cond.methodLink "GuardRosterModel" (108 : Nat) ({ cls := "GuardRosterModel", name := "arePlace", desc := "(II)Z" } : Jvm.MethodName) ∈ gw := gw_t6 54 rfl rfl
theorem lk1256 : Cond.instanceMethod ({ cls := "GuardRosterModel", name := "arePlace", desc := "(II)Z" } : Jvm.MethodName) ∈ gw := gw_t6 56 rfl rfl
theorem lk1258 : Cond.methodLink "GuardRosterModel" (64 : Nat) ({ cls := "GuardRosterModel", name := "isSlot", desc := "(I)Z" } : Jvm.MethodName) ∈ gw := gw_t6 58 rfl rfl
theorem lk1259 : Cond.static ({ cls := "GuardRosterModel", name := "isSlot", desc := "(I)Z" } : Jvm.MethodName) ∈ gw := gw_t6 59 rfl rfl
theorem lk1261 : Cond.methodLink "GuardRosterModel" (111 : Nat) ({ cls := "GuardRosterModel", name := "isRefused", desc := "(IIII)Z" } : Jvm.MethodName) ∈ gw := gw_t6 61 rfl rfl
theorem lk1263 : Cond.instanceMethod ({ cls := "GuardRosterModel", name := "isRefused", desc := "(IIII)Z" } : Jvm.MethodName) ∈ gw := gw_t6 63 rfl rfl
theorem lk1265 : Cond.methodLink "GuardRosterModel" (98 : Nat) ({ cls := "GuardRosterModel", name := "refuses", desc := "(III)I" } : Jvm.MethodName) ∈ gw := gw_t6 65 rfl rfl
theorem lk1267 : Cond.instanceMethod ({ cls := "GuardRosterModel", name := "refuses", desc := "(III)I" } : Jvm.MethodName) ∈ gw := gw_t6 67 rfl rfl
theorem lk1269 : Cond.methodLink "GuardRosterModel" (67 : Nat) ({ cls := "GuardRosterModel", name := "who", desc := "(II)I" } : Jvm.MethodName) ∈ gw := gw_t6 69 rfl rfl
theorem lk1271 : Cond.instanceMethod ({ cls := "GuardRosterModel", name := "who", desc := "(II)I" } : Jvm.MethodName) ∈ gw := gw_t6 71 rfl rfl
theorem lk1273 : Cond.methodLink "GuardRosterModel" (91 : Nat) ({ cls := "GuardRosterModel", name := "isOff", desc := "(II)Z" } : Jvm.MethodName) ∈ gw := gw_t6 73 rfl rfl
theorem lk1275 : Cond.instanceMethod ({ cls := "GuardRosterModel", name := "isOff", desc := "(II)Z" } : Jvm.MethodName) ∈ gw := gw_t6 75 rfl rfl
theorem lk1277 : Cond.methodLink "GuardRosterModel" (95 : Nat) ({ cls := "GuardRosterModel", name := "where", desc := "(II)I" } : Jvm.MethodName) ∈ gw := gw_t6 77 rfl rfl
theorem lk1279 : Cond.instanceMethod ({ cls := "GuardRosterModel", name := "where", desc := "(II)I" } : Jvm.MethodName) ∈ gw := gw_t6 79 rfl rfl
theorem lk1281 : Cond.methodLink "GuardRosterModel" (115 : Nat) ({ cls := "GuardRosterModel", name := "puts", desc := "(III)V" } : Jvm.MethodName) ∈ gw := gw_t6 81 rfl rfl
theorem lk1283 : Cond.instanceMethod ({ cls := "GuardRosterModel", name := "puts", desc := "(III)V" } : Jvm.MethodName) ∈ gw := gw_t6 83 rfl rfl
theorem lk1285 : Cond.methodLink "GuardRosterModel" (119 : Nat) ({ cls := "GuardRosterModel", name := "duties", desc := "(I)I" } : Jvm.MethodName) ∈ gw := gw_t6 85 rfl rfl
theorem lk1287 : Cond.instanceMethod ({ cls := "GuardRosterModel", name := "duties", desc := "(I)I" } : Jvm.MethodName) ∈ gw := gw_t6 87 rfl rfl
theorem lk1289 : Cond.methodLink "GuardRosterLaw" (185 : Nat) ({ cls := "GuardRosterModel", name := "canAssign", desc := "(III)Z" } : Jvm.MethodName) ∈ gw := gw_t6 89 rfl rfl
theorem lk1290 : Cond.instanceMethod ({ cls := "GuardRosterModel", name := "canAssign", desc := "(III)Z" } : Jvm.MethodName) ∈ gw := gw_t6 90 rfl rfl
theorem lk1293 : Cond.methodLink "GuardRosterLaw" (189 : Nat) ({ cls := "GuardRosterModel", name := "remove", desc := "(II)I" } : Jvm.MethodName) ∈ gw := gw_t6 93 rfl rfl
theorem lk1294 : Cond.instanceMethod ({ cls := "GuardRosterModel", name := "remove", desc := "(II)I" } : Jvm.MethodName) ∈ gw := gw_t6 94 rfl rfl
theorem lk1297 : Cond.methodLink "GuardRosterLaw" (193 : Nat) ({ cls := "GuardRosterModel", name := "exchange", desc := "(IIII)I" } : Jvm.MethodName) ∈ gw := gw_t6 97 rfl rfl
theorem lk1298 : Cond.instanceMethod ({ cls := "GuardRosterModel", name := "exchange", desc := "(IIII)I" } : Jvm.MethodName) ∈ gw := gw_t6 98 rfl rfl
theorem lk1301 : Cond.methodLink "GuardRosterLaw" (196 : Nat) ({ cls := "GuardRosterModel", name := "fillSlot", desc := "(I)I" } : Jvm.MethodName) ∈ gw := gw_t6 101 rfl rfl
theorem lk1302 : Cond.instanceMethod ({ cls := "GuardRosterModel", name := "fillSlot", desc := "(I)I" } : Jvm.MethodName) ∈ gw := gw_t6 102 rfl rfl
theorem lk1305 : Cond.methodLink "GuardRosterModel" (125 : Nat) ({ cls := "GuardRosterModel", name := "nextGate", desc := "(II)I" } : Jvm.MethodName) ∈ gw := gw_t6 105 rfl rfl
theorem lk1307 : Cond.instanceMethod ({ cls := "GuardRosterModel", name := "nextGate", desc := "(II)I" } : Jvm.MethodName) ∈ gw := gw_t6 107 rfl rfl
theorem lk1309 : Cond.methodLink "GuardRosterModel" (128 : Nat) ({ cls := "GuardRosterModel", name := "chosen", desc := "(II)I" } : Jvm.MethodName) ∈ gw := gw_t6 109 rfl rfl
theorem lk1311 : Cond.instanceMethod ({ cls := "GuardRosterModel", name := "chosen", desc := "(II)I" } : Jvm.MethodName) ∈ gw := gw_t6 111 rfl rfl
theorem lk1313 : Cond.methodLink "GuardRosterModel" (122 : Nat) ({ cls := "GuardRosterModel", name := "isAhead", desc := "(II)Z" } : Jvm.MethodName) ∈ gw := gw_t6 113 rfl rfl
theorem lk1315 : Cond.instanceMethod ({ cls := "GuardRosterModel", name := "isAhead", desc := "(II)Z" } : Jvm.MethodName) ∈ gw := gw_t6 115 rfl rfl
theorem lk1317 : Cond.methodLink "GuardRosterLaw" (199 : Nat) ({ cls := "GuardRosterModel", name := "guardAt", desc := "(II)I" } : Jvm.MethodName) ∈ gw := gw_t6 117 rfl rfl
theorem lk1318 : Cond.instanceMethod ({ cls := "GuardRosterModel", name := "guardAt", desc := "(II)I" } : Jvm.MethodName) ∈ gw := gw_t6 118 rfl rfl
theorem lk1321 : Cond.methodLink "GuardRosterLaw" (202 : Nat) ({ cls := "GuardRosterModel", name := "gateOf", desc := "(II)I" } : Jvm.MethodName) ∈ gw := gw_t6 121 rfl rfl
theorem lk1322 : Cond.instanceMethod ({ cls := "GuardRosterModel", name := "gateOf", desc := "(II)I" } : Jvm.MethodName) ∈ gw := gw_t6 122 rfl rfl
theorem lk1325 : Cond.methodLink "GuardRosterLaw" (205 : Nat) ({ cls := "GuardRosterModel", name := "dutiesOf", desc := "(I)I" } : Jvm.MethodName) ∈ gw := gw_t6 125 rfl rfl
theorem lk1326 : Cond.instanceMethod ({ cls := "GuardRosterModel", name := "dutiesOf", desc := "(I)I" } : Jvm.MethodName) ∈ gw := gw_t6 126 rfl rfl
theorem lk1329 : Cond.methodLink "GuardRosterLaw" (209 : Nat) ({ cls := "GuardRosterModel", name := "dutyCount", desc := "()I" } : Jvm.MethodName) ∈ gw := gw_t6 129 rfl rfl
theorem lk1330 : Cond.instanceMethod ({ cls := "GuardRosterModel", name := "dutyCount", desc := "()I" } : Jvm.MethodName) ∈ gw := gw_t6 130 rfl rfl
theorem lk1333 : Cond.methodLink "GuardRosterModel" (131 : Nat) ({ cls := "GuardRosterModel", name := "allDuties", desc := "()I" } : Jvm.MethodName) ∈ gw := gw_t6 133 rfl rfl
theorem lk1335 : Cond.instanceMethod ({ cls := "GuardRosterModel", name := "allDuties", desc := "()I" } : Jvm.MethodName) ∈ gw := gw_t6 135 rfl rfl
theorem lk1337 : Cond.methodLink "GuardRosterLaw" (212 : Nat) ({ cls := "GuardRosterModel", name := "openGates", desc := "(I)I" } : Jvm.MethodName) ∈ gw := gw_t6 137 rfl rfl
theorem lk1338 : Cond.instanceMethod ({ cls := "GuardRosterModel", name := "openGates", desc := "(I)I" } : Jvm.MethodName) ∈ gw := gw_t6 138 rfl rfl
theorem lk1341 : Cond.methodLink "GuardRosterModel" (135 : Nat) ({ cls := "GuardRosterModel", name := "open", desc := "(I)I" } : Jvm.MethodName) ∈ gw := gw_t6 141 rfl rfl
theorem lk1343 : Cond.instanceMethod ({ cls := "GuardRosterModel", name := "open", desc := "(I)I" } : Jvm.MethodName) ∈ gw := gw_t6 143 rfl rfl
theorem lk1345 : Cond.methodLink "GuardRosterLaw" (216 : Nat) ({ cls := "GuardRosterModel", name := "openPlaces", desc := "()I" } : Jvm.MethodName) ∈ gw := gw_t6 145 rfl rfl
theorem lk1346 : Cond.instanceMethod ({ cls := "GuardRosterModel", name := "openPlaces", desc := "()I" } : Jvm.MethodName) ∈ gw := gw_t6 146 rfl rfl
theorem lk1349 : Cond.methodLink "GuardRosterModel" (138 : Nat) ({ cls := "GuardRosterModel", name := "openFromNow", desc := "()I" } : Jvm.MethodName) ∈ gw := gw_t6 149 rfl rfl
theorem lk1351 : Cond.instanceMethod ({ cls := "GuardRosterModel", name := "openFromNow", desc := "()I" } : Jvm.MethodName) ∈ gw := gw_t6 151 rfl rfl
theorem lk1353 : Cond.methodLink "GuardRosterLaw" (220 : Nat) ({ cls := "GuardRosterModel", name := "openPlacesBySlots", desc := "()I" } : Jvm.MethodName) ∈ gw := gw_t6 153 rfl rfl
theorem lk1354 : Cond.instanceMethod ({ cls := "GuardRosterModel", name := "openPlacesBySlots", desc := "()I" } : Jvm.MethodName) ∈ gw := gw_t6 154 rfl rfl
theorem lk1357 : Cond.methodLink "GuardRosterLaw" (223 : Nat) ({ cls := "GuardRosterModel", name := "mostDuties", desc := "(I)I" } : Jvm.MethodName) ∈ gw := gw_t6 157 rfl rfl
theorem lk1358 : Cond.instanceMethod ({ cls := "GuardRosterModel", name := "mostDuties", desc := "(I)I" } : Jvm.MethodName) ∈ gw := gw_t6 158 rfl rfl
theorem lk1361 : Cond.methodLink "GuardRosterModel" (141 : Nat) ({ cls := "GuardRosterModel", name := "most", desc := "(I)I" } : Jvm.MethodName) ∈ gw := gw_t6 161 rfl rfl
theorem lk1363 : Cond.instanceMethod ({ cls := "GuardRosterModel", name := "most", desc := "(I)I" } : Jvm.MethodName) ∈ gw := gw_t6 163 rfl rfl
theorem lk1365 : Cond.methodLink "GuardRosterLaw" (226 : Nat) ({ cls := "GuardRosterModel", name := "mostDutiesBySets", desc := "(I)I" } : Jvm.MethodName) ∈ gw := gw_t6 165 rfl rfl
theorem lk1366 : Cond.instanceMethod ({ cls := "GuardRosterModel", name := "mostDutiesBySets", desc := "(I)I" } : Jvm.MethodName) ∈ gw := gw_t6 166 rfl rfl
theorem lk1369 : Cond.methodLink "GuardRosterLaw" (229 : Nat) ({ cls := "GuardRosterModel", name := "nextDuty", desc := "(I)I" } : Jvm.MethodName) ∈ gw := gw_t6 169 rfl rfl
theorem lk1370 : Cond.instanceMethod ({ cls := "GuardRosterModel", name := "nextDuty", desc := "(I)I" } : Jvm.MethodName) ∈ gw := gw_t6 170 rfl rfl
theorem lk1373 : Cond.methodLink "GuardRosterModel" (144 : Nat) ({ cls := "GuardRosterModel", name := "following", desc := "(I)I" } : Jvm.MethodName) ∈ gw := gw_t6 173 rfl rfl
theorem lk1375 : Cond.instanceMethod ({ cls := "GuardRosterModel", name := "following", desc := "(I)I" } : Jvm.MethodName) ∈ gw := gw_t6 175 rfl rfl
theorem lk1377 : Cond.methodLink "GuardRosterLaw" (232 : Nat) ({ cls := "GuardRosterModel", name := "longestRest", desc := "(I)I" } : Jvm.MethodName) ∈ gw := gw_t6 177 rfl rfl
theorem lk1378 : Cond.instanceMethod ({ cls := "GuardRosterModel", name := "longestRest", desc := "(I)I" } : Jvm.MethodName) ∈ gw := gw_t6 178 rfl rfl
theorem lk1381 : Cond.methodLink "GuardRosterLaw" (235 : Nat) ({ cls := "GuardRosterModel", name := "guardByDuties", desc := "(I)I" } : Jvm.MethodName) ∈ gw := gw_t6 181 rfl rfl
theorem lk1382 : Cond.instanceMethod ({ cls := "GuardRosterModel", name := "guardByDuties", desc := "(I)I" } : Jvm.MethodName) ∈ gw := gw_t6 182 rfl rfl
theorem lk1385 : Cond.methodLink "GuardRosterLaw" (238 : Nat) ({ cls := "GuardRosterModel", name := "grantLeave", desc := "(III)I" } : Jvm.MethodName) ∈ gw := gw_t6 185 rfl rfl
theorem lk1386 : Cond.instanceMethod ({ cls := "GuardRosterModel", name := "grantLeave", desc := "(III)I" } : Jvm.MethodName) ∈ gw := gw_t6 186 rfl rfl
theorem lk1389 : Cond.methodLink "GuardRosterModel" (147 : Nat) ({ cls := "GuardRosterModel", name := "bits", desc := "(I)I" } : Jvm.MethodName) ∈ gw := gw_t6 189 rfl rfl
theorem lk1390 : Cond.static ({ cls := "GuardRosterModel", name := "bits", desc := "(I)I" } : Jvm.MethodName) ∈ gw := gw_t6 190 rfl rfl
theorem lk1392 : Cond.methodLink "GuardRosterLaw" (241 : Nat) ({ cls := "GuardRosterModel", name := "endLeave", desc := "(II)I" } : Jvm.MethodName) ∈ gw := gw_t6 192 rfl rfl
theorem lk1393 : Cond.instanceMethod ({ cls := "GuardRosterModel", name := "endLeave", desc := "(II)I" } : Jvm.MethodName) ∈ gw := gw_t6 193 rfl rfl
theorem lk1396 : Cond.methodLink "GuardRosterLaw" (244 : Nat) ({ cls := "GuardRosterModel", name := "isOnLeave", desc := "(II)Z" } : Jvm.MethodName) ∈ gw := gw_t6 196 rfl rfl
theorem lk1397 : Cond.instanceMethod ({ cls := "GuardRosterModel", name := "isOnLeave", desc := "(II)Z" } : Jvm.MethodName) ∈ gw := gw_t6 197 rfl rfl
theorem lk1400 : Cond.methodLink "GuardRosterLaw" (247 : Nat) ({ cls := "GuardRosterModel", name := "leaveSlots", desc := "(I)I" } : Jvm.MethodName) ∈ gw := gw_t6 200 rfl rfl
theorem lk1401 : Cond.instanceMethod ({ cls := "GuardRosterModel", name := "leaveSlots", desc := "(I)I" } : Jvm.MethodName) ∈ gw := gw_t6 201 rfl rfl
theorem lk1404 : Cond.methodLink "GuardRosterLaw" (250 : Nat) ({ cls := "GuardRosterModel", name := "addRations", desc := "(I)I" } : Jvm.MethodName) ∈ gw := gw_t6 204 rfl rfl
theorem lk1405 : Cond.instanceMethod ({ cls := "GuardRosterModel", name := "addRations", desc := "(I)I" } : Jvm.MethodName) ∈ gw := gw_t6 205 rfl rfl
theorem lk1408 : Cond.methodLink "GuardRosterLaw" (253 : Nat) ({ cls := "GuardRosterModel", name := "passSlots", desc := "(I)I" } : Jvm.MethodName) ∈ gw := gw_t6 208 rfl rfl
theorem lk1409 : Cond.instanceMethod ({ cls := "GuardRosterModel", name := "passSlots", desc := "(I)I" } : Jvm.MethodName) ∈ gw := gw_t6 209 rfl rfl
theorem lk1412 : Cond.methodLink "GuardRosterModel" (150 : Nat) ({ cls := "GuardRosterModel", name := "goes", desc := "()I" } : Jvm.MethodName) ∈ gw := gw_t6 212 rfl rfl
theorem lk1414 : Cond.instanceMethod ({ cls := "GuardRosterModel", name := "goes", desc := "()I" } : Jvm.MethodName) ∈ gw := gw_t6 214 rfl rfl
theorem lk1416 : Cond.methodLink "GuardRosterLaw" (257 : Nat) ({ cls := "GuardRosterModel", name := "rations", desc := "()I" } : Jvm.MethodName) ∈ gw := gw_t6 216 rfl rfl
theorem lk1417 : Cond.instanceMethod ({ cls := "GuardRosterModel", name := "rations", desc := "()I" } : Jvm.MethodName) ∈ gw := gw_t6 217 rfl rfl
theorem lk1420 : Cond.methodLink "GuardRosterLaw" (261 : Nat) ({ cls := "GuardRosterModel", name := "currentSlot", desc := "()I" } : Jvm.MethodName) ∈ gw := gw_t6 220 rfl rfl
theorem lk1421 : Cond.instanceMethod ({ cls := "GuardRosterModel", name := "currentSlot", desc := "()I" } : Jvm.MethodName) ∈ gw := gw_t6 221 rfl rfl
theorem lk1424 : Cond.methodLink "GuardRosterLaw" (265 : Nat) ({ cls := "GuardRosterModel", name := "missingRations", desc := "()I" } : Jvm.MethodName) ∈ gw := gw_t6 224 rfl rfl
theorem lk1425 : Cond.instanceMethod ({ cls := "GuardRosterModel", name := "missingRations", desc := "()I" } : Jvm.MethodName) ∈ gw := gw_t6 225 rfl rfl
theorem lk1428 : Cond.methodLink "GuardRosterLaw" (269 : Nat) ({ cls := "GuardRosterModel", name := "refusalReason", desc := "()I" } : Jvm.MethodName) ∈ gw := gw_t6 228 rfl rfl
theorem lk1429 : Cond.instanceMethod ({ cls := "GuardRosterModel", name := "refusalReason", desc := "()I" } : Jvm.MethodName) ∈ gw := gw_t6 229 rfl rfl
theorem lk1432 : Cond.methodLink "GuardRosterLaw" (272 : Nat) ({ cls := "GuardRosterModel", name := "refusalDetail", desc := "()I" } : Jvm.MethodName) ∈ gw := gw_t6 232 rfl rfl
theorem lk1433 : Cond.instanceMethod ({ cls := "GuardRosterModel", name := "refusalDetail", desc := "()I" } : Jvm.MethodName) ∈ gw := gw_t6 233 rfl rfl
theorem lk1436 : Cond.methodLink "GuardRosterLaw" (276 : Nat) ({ cls := "GuardRosterModel", name := "meanDuties", desc := "()D" } : Jvm.MethodName) ∈ gw := gw_t6 236 rfl rfl
theorem lk1437 : Cond.instanceMethod ({ cls := "GuardRosterModel", name := "meanDuties", desc := "()D" } : Jvm.MethodName) ∈ gw := gw_t6 237 rfl rfl
theorem lk1440 : Cond.methodLink "GuardRosterLaw" (279 : Nat) ({ cls := "GuardRosterModel", name := "coveredFraction", desc := "()F" } : Jvm.MethodName) ∈ gw := gw_t7 0 rfl rfl
theorem lk1441 : Cond.instanceMethod ({ cls := "GuardRosterModel", name := "coveredFraction", desc := "()F" } : Jvm.MethodName) ∈ gw := gw_t7 1 rfl rfl
theorem lk1444 : Cond.methodLink "GuardRosterLaw" (282 : Nat) ({ cls := "GuardRosterModel", name := "writeSlot", desc := "(I)I" } : Jvm.MethodName) ∈ gw := gw_t7 4 rfl rfl
theorem lk1445 : Cond.instanceMethod ({ cls := "GuardRosterModel", name := "writeSlot", desc := "(I)I" } : Jvm.MethodName) ∈ gw := gw_t7 5 rfl rfl
theorem lk1448 : Cond.methodLink "GuardRosterModel" (156 : Nat) ({ cls := "GuardRosterModel", name := "writes", desc := "(I)V" } : Jvm.MethodName) ∈ gw := gw_t7 8 rfl rfl
theorem lk1450 : Cond.instanceMethod ({ cls := "GuardRosterModel", name := "writes", desc := "(I)V" } : Jvm.MethodName) ∈ gw := gw_t7 10 rfl rfl
theorem lk1452 : Cond.methodLink "GuardRosterLaw" (285 : Nat) ({ cls := "GuardRosterModel", name := "writeGuard", desc := "(I)I" } : Jvm.MethodName) ∈ gw := gw_t7 12 rfl rfl
theorem lk1453 : Cond.instanceMethod ({ cls := "GuardRosterModel", name := "writeGuard", desc := "(I)I" } : Jvm.MethodName) ∈ gw := gw_t7 13 rfl rfl
theorem lk1456 : Cond.methodLink "GuardRosterLaw" (288 : Nat) ({ cls := "GuardRosterModel", name := "outputCharacter", desc := "(I)C" } : Jvm.MethodName) ∈ gw := gw_t7 16 rfl rfl
theorem lk1457 : Cond.instanceMethod ({ cls := "GuardRosterModel", name := "outputCharacter", desc := "(I)C" } : Jvm.MethodName) ∈ gw := gw_t7 17 rfl rfl
theorem lk1460 : Cond.methodLink "GuardRosterLaw" (293 : Nat) ({ cls := "GuardRosterModel", name := "isConsistent", desc := "()Z" } : Jvm.MethodName) ∈ gw := gw_t7 20 rfl rfl
theorem lk1461 : Cond.instanceMethod ({ cls := "GuardRosterModel", name := "isConsistent", desc := "()Z" } : Jvm.MethodName) ∈ gw := gw_t7 21 rfl rfl
theorem lk1464 : Cond.methodLink "GuardRosterLaw" (297 : Nat) ({ cls := "GuardRosterModel", name := "feed", desc := "(C)I" } : Jvm.MethodName) ∈ gw := gw_t7 24 rfl rfl
theorem lk1465 : Cond.instanceMethod ({ cls := "GuardRosterModel", name := "feed", desc := "(C)I" } : Jvm.MethodName) ∈ gw := gw_t7 25 rfl rfl
theorem lk1468 : Cond.methodLink "GuardRosterLaw" (300 : Nat) ({ cls := "GuardRosterModel", name := "execute", desc := "()I" } : Jvm.MethodName) ∈ gw := gw_t7 28 rfl rfl
theorem lk1469 : Cond.instanceMethod ({ cls := "GuardRosterModel", name := "execute", desc := "()I" } : Jvm.MethodName) ∈ gw := gw_t7 29 rfl rfl
theorem lk1472 : Cond.methodLink "GuardRosterModel" (240 : Nat) ({ cls := "GuardRosterModel", name := "isText", desc := "()Z" } : Jvm.MethodName) ∈ gw := gw_t7 32 rfl rfl
theorem lk1474 : Cond.instanceMethod ({ cls := "GuardRosterModel", name := "isText", desc := "()Z" } : Jvm.MethodName) ∈ gw := gw_t7 34 rfl rfl
theorem lk1476 : Cond.methodLink "GuardRosterModel" (212 : Nat) ({ cls := "GuardRosterModel", name := "commandHere", desc := "()Z" } : Jvm.MethodName) ∈ gw := gw_t7 36 rfl rfl
theorem lk1478 : Cond.instanceMethod ({ cls := "GuardRosterModel", name := "commandHere", desc := "()Z" } : Jvm.MethodName) ∈ gw := gw_t7 38 rfl rfl
theorem lk1480 : Cond.methodLink "GuardRosterModel" (180 : Nat) ({ cls := "GuardRosterModel", name := "skips", desc := "(I)Z" } : Jvm.MethodName) ∈ gw := gw_t7 40 rfl rfl
theorem lk1482 : Cond.instanceMethod ({ cls := "GuardRosterModel", name := "skips", desc := "(I)Z" } : Jvm.MethodName) ∈ gw := gw_t7 42 rfl rfl
theorem lk1484 : Cond.methodLink "GuardRosterModel" (166 : Nat) ({ cls := "GuardRosterModel", name := "here", desc := "()I" } : Jvm.MethodName) ∈ gw := gw_t7 44 rfl rfl
theorem lk1486 : Cond.instanceMethod ({ cls := "GuardRosterModel", name := "here", desc := "()I" } : Jvm.MethodName) ∈ gw := gw_t7 46 rfl rfl
theorem lk1488 : Cond.methodLink "GuardRosterModel" (200 : Nat) ({ cls := "GuardRosterModel", name := "withG", desc := "(I)Z" } : Jvm.MethodName) ∈ gw := gw_t7 48 rfl rfl
theorem lk1490 : Cond.instanceMethod ({ cls := "GuardRosterModel", name := "withG", desc := "(I)Z" } : Jvm.MethodName) ∈ gw := gw_t7 50 rfl rfl
theorem lk1493 : Cond.methodLink "GuardRosterModel" (185 : Nat) ({ cls := "GuardRosterModel", name := "isWord", desc := "(ILjava/lang/String;)Z" } : Jvm.MethodName) ∈ gw := gw_t7 53 rfl rfl
theorem lk1495 : Cond.instanceMethod ({ cls := "GuardRosterModel", name := "isWord", desc := "(ILjava/lang/String;)Z" } : Jvm.MethodName) ∈ gw := gw_t7 55 rfl rfl
theorem lk1497 : Cond.methodLink "GuardRosterModel" (172 : Nat) ({ cls := "java/lang/String", name := "length", desc := "()I" } : Jvm.MethodName) ∈ gw := gw_t7 57 rfl rfl
theorem lk1498 : Cond.methodLink "GuardRosterModel" (176 : Nat) ({ cls := "java/lang/String", name := "charAt", desc := "(I)C" } : Jvm.MethodName) ∈ gw := gw_t7 58 rfl rfl
theorem lk1499 : Cond.methodLink "GuardRosterModel" (189 : Nat) ({ cls := "GuardRosterModel", name := "figures", desc := "(III)Z" } : Jvm.MethodName) ∈ gw := gw_t7 59 rfl rfl
theorem lk1501 : Cond.instanceMethod ({ cls := "GuardRosterModel", name := "figures", desc := "(III)Z" } : Jvm.MethodName) ∈ gw := gw_t7 61 rfl rfl
theorem lk1504 : Cond.methodLink "GuardRosterModel" (203 : Nat) ({ cls := "GuardRosterModel", name := "withF", desc := "(I)Z" } : Jvm.MethodName) ∈ gw := gw_t7 64 rfl rfl
theorem lk1506 : Cond.instanceMethod ({ cls := "GuardRosterModel", name := "withF", desc := "(I)Z" } : Jvm.MethodName) ∈ gw := gw_t7 66 rfl rfl
theorem lk1514 : Cond.methodLink "GuardRosterModel" (243 : Nat) ({ cls := "GuardRosterModel", name := "carries", desc := "(I)I" } : Jvm.MethodName) ∈ gw := gw_t7 74 rfl rfl
theorem lk1516 : Cond.instanceMethod ({ cls := "GuardRosterModel", name := "carries", desc := "(I)I" } : Jvm.MethodName) ∈ gw := gw_t7 76 rfl rfl
theorem lk1518 : Cond.methodLink "GuardRosterModel" (216 : Nat) ({ cls := "GuardRosterModel", name := "addGate", desc := "(I)I" } : Jvm.MethodName) ∈ gw := gw_t7 78 rfl rfl
theorem lk1519 : Cond.methodLink "GuardRosterModel" (219 : Nat) ({ cls := "GuardRosterModel", name := "addGuard", desc := "(I)I" } : Jvm.MethodName) ∈ gw := gw_t7 79 rfl rfl
theorem lk1520 : Cond.methodLink "GuardRosterModel" (222 : Nat) ({ cls := "GuardRosterModel", name := "assign", desc := "(III)I" } : Jvm.MethodName) ∈ gw := gw_t7 80 rfl rfl
theorem lk1521 : Cond.methodLink "GuardRosterModel" (225 : Nat) ({ cls := "GuardRosterModel", name := "remove", desc := "(II)I" } : Jvm.MethodName) ∈ gw := gw_t7 81 rfl rfl
theorem lk1522 : Cond.methodLink "GuardRosterModel" (228 : Nat) ({ cls := "GuardRosterModel", name := "grantLeave", desc := "(III)I" } : Jvm.MethodName) ∈ gw := gw_t7 82 rfl rfl
theorem lk1523 : Cond.methodLink "GuardRosterModel" (231 : Nat) ({ cls := "GuardRosterModel", name := "fillSlot", desc := "(I)I" } : Jvm.MethodName) ∈ gw := gw_t7 83 rfl rfl
theorem lk1524 : Cond.methodLink "GuardRosterModel" (234 : Nat) ({ cls := "GuardRosterModel", name := "addRations", desc := "(I)I" } : Jvm.MethodName) ∈ gw := gw_t7 84 rfl rfl
theorem lk1525 : Cond.methodLink "GuardRosterModel" (237 : Nat) ({ cls := "GuardRosterModel", name := "passSlots", desc := "(I)I" } : Jvm.MethodName) ∈ gw := gw_t7 85 rfl rfl
theorem lk1526 : Cond.methodLink "GuardRosterLaw" (303 : Nat) ({ cls := "GuardRosterModel", name := "errorPosition", desc := "()I" } : Jvm.MethodName) ∈ gw := gw_t7 86 rfl rfl
theorem lk1527 : Cond.instanceMethod ({ cls := "GuardRosterModel", name := "errorPosition", desc := "()I" } : Jvm.MethodName) ∈ gw := gw_t7 87 rfl rfl
theorem lk1530 : Cond.methodLink "GuardRosterLaw" (306 : Nat) ({ cls := "GuardRosterModel", name := "failedCommand", desc := "()I" } : Jvm.MethodName) ∈ gw := gw_t7 90 rfl rfl
theorem lk1531 : Cond.instanceMethod ({ cls := "GuardRosterModel", name := "failedCommand", desc := "()I" } : Jvm.MethodName) ∈ gw := gw_t7 91 rfl rfl
theorem lk1534 : Cond.methodLink "GuardRosterLaw" (309 : Nat) ({ cls := "GuardRosterModel", name := "undo", desc := "()I" } : Jvm.MethodName) ∈ gw := gw_t7 94 rfl rfl
theorem lk1535 : Cond.instanceMethod ({ cls := "GuardRosterModel", name := "undo", desc := "()I" } : Jvm.MethodName) ∈ gw := gw_t7 95 rfl rfl
theorem lk1538 : Cond.methodLink "GuardRosterLaw" (313 : Nat) ({ cls := "GuardRosterModel", name := "undoCount", desc := "()I" } : Jvm.MethodName) ∈ gw := gw_t7 98 rfl rfl
theorem lk1539 : Cond.instanceMethod ({ cls := "GuardRosterModel", name := "undoCount", desc := "()I" } : Jvm.MethodName) ∈ gw := gw_t7 99 rfl rfl
theorem lk1542 : Cond.methodLink "GuardRosterLaw" (317 : Nat) ({ cls := "GuardRosterModel", name := "save", desc := "()I" } : Jvm.MethodName) ∈ gw := gw_t7 102 rfl rfl
theorem lk1543 : Cond.instanceMethod ({ cls := "GuardRosterModel", name := "save", desc := "()I" } : Jvm.MethodName) ∈ gw := gw_t7 103 rfl rfl
theorem lk1546 : Cond.methodLink "GuardRosterLaw" (320 : Nat) ({ cls := "GuardRosterModel", name := "restore", desc := "()I" } : Jvm.MethodName) ∈ gw := gw_t7 106 rfl rfl
theorem lk1547 : Cond.instanceMethod ({ cls := "GuardRosterModel", name := "restore", desc := "()I" } : Jvm.MethodName) ∈ gw := gw_t7 107 rfl rfl
theorem lk1550 : Cond.arrayClass Jvm.ClassFile.FieldType.long ∈ gw := gw_t7 110 rfl rfl
theorem lk1551 : Cond.arrayClass Jvm.ClassFile.FieldType.double ∈ gw := gw_t7 111 rfl rfl
theorem lk1569 : Cond.fieldLink "java/lang/String" (9 : Nat) "java/lang/String" "value" "[B" ∈ gw := gw_t7 129 rfl rfl
theorem lk1570 : Cond.fieldLink "java/lang/String" (15 : Nat) "java/lang/String" "coder" "B" ∈ gw := gw_t7 130 rfl rfl
theorem mf_X0_isFull : MFV yX0_isFull cX0_isFull 1 ((Option.some Jvm.ClassFile.FieldType.boolean)) 0 := ⟨⟨gw_t4 216 rfl rfl, gw_t1 5 rfl rfl, ⟨by decide, by decide⟩, by decide⟩, gw_t4 214 rfl rfl, gw_t4 215 rfl rfl⟩
theorem mf_X0_append : MFV yX0_append cX0_append 2 ((Option.some Jvm.ClassFile.FieldType.int)) 1 := ⟨⟨gw_t4 221 rfl rfl, gw_t1 5 rfl rfl, ⟨by decide, by decide⟩, by decide⟩, gw_t4 219 rfl rfl, gw_t4 220 rfl rfl⟩
theorem mf_X0_empty : MFV yX0_empty cX0_empty 1 ((Option.none : Option Jvm.ClassFile.FieldType)) 0 := ⟨⟨gw_t5 75 rfl rfl, gw_t1 5 rfl rfl, ⟨by decide, by decide⟩, by decide⟩, gw_t5 73 rfl rfl, gw_t5 74 rfl rfl⟩
theorem mf_X0_commands : MFV yX0_commands cX0_commands 1 ((Option.some Jvm.ClassFile.FieldType.int)) 0 := ⟨⟨gw_t5 85 rfl rfl, gw_t1 5 rfl rfl, ⟨by decide, by decide⟩, by decide⟩, gw_t5 83 rfl rfl, gw_t5 84 rfl rfl⟩
theorem mf_X0_firstWrong : MFV yX0_firstWrong cX0_firstWrong 1 ((Option.some Jvm.ClassFile.FieldType.int)) 0 := ⟨⟨gw_t5 79 rfl rfl, gw_t1 5 rfl rfl, ⟨by decide, by decide⟩, by decide⟩, gw_t5 77 rfl rfl, gw_t5 78 rfl rfl⟩
theorem mf_X0_kind : MFV yX0_kind cX0_kind 2 ((Option.some Jvm.ClassFile.FieldType.int)) 1 := ⟨⟨gw_t5 93 rfl rfl, gw_t1 5 rfl rfl, ⟨by decide, by decide⟩, by decide⟩, gw_t5 91 rfl rfl, gw_t5 92 rfl rfl⟩
theorem mf_X0_value : MFV yX0_value cX0_value 4 ((Option.some Jvm.ClassFile.FieldType.int)) 2 := ⟨⟨gw_t5 97 rfl rfl, gw_t1 5 rfl rfl, ⟨by decide, by decide⟩, by decide⟩, gw_t5 95 rfl rfl, gw_t5 96 rfl rfl⟩
theorem mf_X0_parse : MFV yX0_parse cX0_parse 4 ((Option.some Jvm.ClassFile.FieldType.boolean)) 0 := ⟨⟨gw_t4 232 rfl rfl, gw_t1 5 rfl rfl, ⟨by decide, by decide⟩, by decide⟩, gw_t4 230 rfl rfl, gw_t4 231 rfl rfl⟩
theorem mf_X0_readCommand : MFV yX0_readCommand cX0_readCommand 5 ((Option.some Jvm.ClassFile.FieldType.int)) 1 := ⟨⟨gw_t4 236 rfl rfl, gw_t1 5 rfl rfl, ⟨by decide, by decide⟩, by decide⟩, gw_t4 235 rfl rfl, gw_p (q := (yX0_readCommand, 6)) 25 (by decide +kernel)⟩
theorem mf_X0_shapeOf : MFS yX0_shapeOf cX0_shapeOf 1 ((Option.some (Jvm.ClassFile.FieldType.object "java/lang/String"))) 1 := ⟨⟨gw_t4 239 rfl rfl, gw_t1 5 rfl rfl, ⟨by decide, by decide⟩, by decide⟩, gw_t4 238 rfl rfl⟩
theorem mf_X0_readShape : MFV yX0_readShape cX0_readShape 11 ((Option.some Jvm.ClassFile.FieldType.int)) 2 := ⟨⟨gw_t5 11 rfl rfl, gw_t1 5 rfl rfl, ⟨by decide, by decide⟩, by decide⟩, gw_t5 10 rfl rfl, gw_p (q := (yX0_readShape, 6)) 26 (by decide +kernel)⟩
theorem mf_X0_keepValue : MFV yX0_keepValue cX0_keepValue 4 ((Option.none : Option Jvm.ClassFile.FieldType)) 2 := ⟨⟨gw_t5 70 rfl rfl, gw_t1 5 rfl rfl, ⟨by decide, by decide⟩, by decide⟩, gw_t5 69 rfl rfl, gw_p (q := (yX0_keepValue, 6)) 28 (by decide +kernel)⟩
theorem mf_X0_characterAt : MFV yX0_characterAt cX0_characterAt 2 ((Option.some Jvm.ClassFile.FieldType.int)) 1 := ⟨⟨gw_t5 63 rfl rfl, gw_t1 5 rfl rfl, ⟨by decide, by decide⟩, by decide⟩, gw_t5 62 rfl rfl, gw_p (q := (yX0_characterAt, 6)) 27 (by decide +kernel)⟩
theorem mf_X0_isDigit : MFS yX0_isDigit cX0_isDigit 1 ((Option.some Jvm.ClassFile.FieldType.boolean)) 1 := ⟨⟨gw_t5 66 rfl rfl, gw_t1 5 rfl rfl, ⟨by decide, by decide⟩, by decide⟩, gw_t5 65 rfl rfl⟩
theorem mf_X1_size : MFV yX1_size cX1_size 1 ((Option.some Jvm.ClassFile.FieldType.int)) 0 := ⟨⟨gw_t2 143 rfl rfl, gw_t1 3 rfl rfl, ⟨by decide, by decide⟩, by decide⟩, gw_t2 141 rfl rfl, gw_t2 142 rfl rfl⟩
theorem mf_X1_keep : MFV yX1_keep cX1_keep 2 ((Option.none : Option Jvm.ClassFile.FieldType)) 1 := ⟨⟨gw_t3 2 rfl rfl, gw_t1 3 rfl rfl, ⟨by decide, by decide⟩, by decide⟩, gw_t3 0 rfl rfl, gw_t3 1 rfl rfl⟩
theorem mf_X1_begin : MFV yX1_begin cX1_begin 2 ((Option.none : Option Jvm.ClassFile.FieldType)) 1 := ⟨⟨gw_t3 6 rfl rfl, gw_t1 3 rfl rfl, ⟨by decide, by decide⟩, by decide⟩, gw_t3 4 rfl rfl, gw_t3 5 rfl rfl⟩
theorem mf_X1_end : MFV yX1_end cX1_end 1 ((Option.none : Option Jvm.ClassFile.FieldType)) 0 := ⟨⟨gw_t3 11 rfl rfl, gw_t1 3 rfl rfl, ⟨by decide, by decide⟩, by decide⟩, gw_t3 9 rfl rfl, gw_t3 10 rfl rfl⟩
theorem mf_X1_backOut : MFV yX1_backOut cX1_backOut 2 ((Option.none : Option Jvm.ClassFile.FieldType)) 1 := ⟨⟨gw_t5 109 rfl rfl, gw_t1 3 rfl rfl, ⟨by decide, by decide⟩, by decide⟩, gw_t5 107 rfl rfl, gw_t5 108 rfl rfl⟩
theorem mf_X1_takeBack : MFV yX1_takeBack cX1_takeBack 2 ((Option.none : Option Jvm.ClassFile.FieldType)) 1 := ⟨⟨gw_t5 143 rfl rfl, gw_t1 3 rfl rfl, ⟨by decide, by decide⟩, by decide⟩, gw_t5 141 rfl rfl, gw_t5 142 rfl rfl⟩
theorem mf_X1_forget : MFV yX1_forget cX1_forget 1 ((Option.none : Option Jvm.ClassFile.FieldType)) 0 := ⟨⟨gw_t5 157 rfl rfl, gw_t1 3 rfl rfl, ⟨by decide, by decide⟩, by decide⟩, gw_t5 155 rfl rfl, gw_t5 156 rfl rfl⟩
theorem mf_X2_copyTo : MFV yX2_copyTo cX2_copyTo 2 ((Option.none : Option Jvm.ClassFile.FieldType)) 1 := ⟨⟨gw_t2 151 rfl rfl, gw_t1 2 rfl rfl, ⟨by decide, by decide⟩, by decide⟩, gw_t2 149 rfl rfl, gw_t2 150 rfl rfl⟩
theorem mf_X2_copyFrom : MFV yX2_copyFrom cX2_copyFrom 2 ((Option.none : Option Jvm.ClassFile.FieldType)) 1 := ⟨⟨gw_t5 113 rfl rfl, gw_t1 2 rfl rfl, ⟨by decide, by decide⟩, by decide⟩, gw_t5 111 rfl rfl, gw_t5 112 rfl rfl⟩
theorem mf_X2_gates : MFV yX2_gates cX2_gates 1 ((Option.some Jvm.ClassFile.FieldType.int)) 0 := ⟨⟨gw_t1 153 rfl rfl, gw_t1 2 rfl rfl, ⟨by decide, by decide⟩, by decide⟩, gw_t1 151 rfl rfl, gw_t1 152 rfl rfl⟩
theorem mf_X2_guards : MFV yX2_guards cX2_guards 1 ((Option.some Jvm.ClassFile.FieldType.int)) 0 := ⟨⟨gw_t1 161 rfl rfl, gw_t1 2 rfl rfl, ⟨by decide, by decide⟩, by decide⟩, gw_t1 159 rfl rfl, gw_t1 160 rfl rfl⟩
theorem mf_X2_rationsLeft : MFV yX2_rationsLeft cX2_rationsLeft 1 ((Option.some Jvm.ClassFile.FieldType.int)) 0 := ⟨⟨gw_t1 215 rfl rfl, gw_t1 2 rfl rfl, ⟨by decide, by decide⟩, by decide⟩, gw_t1 213 rfl rfl, gw_t1 214 rfl rfl⟩
theorem mf_X2_now : MFV yX2_now cX2_now 1 ((Option.some Jvm.ClassFile.FieldType.int)) 0 := ⟨⟨gw_t1 201 rfl rfl, gw_t1 2 rfl rfl, ⟨by decide, by decide⟩, by decide⟩, gw_t1 199 rfl rfl, gw_t1 200 rfl rfl⟩
theorem mf_X2_isGate : MFV yX2_isGate cX2_isGate 2 ((Option.some Jvm.ClassFile.FieldType.boolean)) 1 := ⟨⟨gw_t1 185 rfl rfl, gw_t1 2 rfl rfl, ⟨by decide, by decide⟩, by decide⟩, gw_t1 183 rfl rfl, gw_t1 184 rfl rfl⟩
theorem mf_X2_isGuard : MFV yX2_isGuard cX2_isGuard 2 ((Option.some Jvm.ClassFile.FieldType.boolean)) 1 := ⟨⟨gw_t2 92 rfl rfl, gw_t1 2 rfl rfl, ⟨by decide, by decide⟩, by decide⟩, gw_t2 90 rfl rfl, gw_t2 91 rfl rfl⟩
theorem mf_X2_isSlot : MFV yX2_isSlot cX2_isSlot 2 ((Option.some Jvm.ClassFile.FieldType.boolean)) 1 := ⟨⟨gw_t1 189 rfl rfl, gw_t1 2 rfl rfl, ⟨by decide, by decide⟩, by decide⟩, gw_t1 187 rfl rfl, gw_t1 188 rfl rfl⟩
theorem mf_X2_hasPassed : MFV yX2_hasPassed cX2_hasPassed 2 ((Option.some Jvm.ClassFile.FieldType.boolean)) 1 := ⟨⟨gw_t3 105 rfl rfl, gw_t1 2 rfl rfl, ⟨by decide, by decide⟩, by decide⟩, gw_t3 103 rfl rfl, gw_t3 104 rfl rfl⟩
theorem mf_X2_rankNeededAt : MFV yX2_rankNeededAt cX2_rankNeededAt 2 ((Option.some Jvm.ClassFile.FieldType.int)) 1 := ⟨⟨gw_t2 96 rfl rfl, gw_t1 2 rfl rfl, ⟨by decide, by decide⟩, by decide⟩, gw_t2 94 rfl rfl, gw_t2 95 rfl rfl⟩
theorem mf_X2_rankOf : MFV yX2_rankOf cX2_rankOf 2 ((Option.some Jvm.ClassFile.FieldType.int)) 1 := ⟨⟨gw_t2 88 rfl rfl, gw_t1 2 rfl rfl, ⟨by decide, by decide⟩, by decide⟩, gw_t2 86 rfl rfl, gw_t2 87 rfl rfl⟩
theorem mf_X2_faintsOf : MFV yX2_faintsOf cX2_faintsOf 2 ((Option.some Jvm.ClassFile.FieldType.int)) 1 := ⟨⟨gw_t3 89 rfl rfl, gw_t1 2 rfl rfl, ⟨by decide, by decide⟩, by decide⟩, gw_t3 87 rfl rfl, gw_t3 88 rfl rfl⟩
theorem mf_X2_appendGate : MFV yX2_appendGate cX2_appendGate 3 ((Option.some Jvm.ClassFile.FieldType.int)) 1 := ⟨⟨gw_t3 18 rfl rfl, gw_t1 2 rfl rfl, ⟨by decide, by decide⟩, by decide⟩, gw_t3 16 rfl rfl, gw_t3 17 rfl rfl⟩
theorem mf_X2_appendGuard : MFV yX2_appendGuard cX2_appendGuard 3 ((Option.some Jvm.ClassFile.FieldType.int)) 1 := ⟨⟨gw_t3 33 rfl rfl, gw_t1 2 rfl rfl, ⟨by decide, by decide⟩, by decide⟩, gw_t3 31 rfl rfl, gw_t3 32 rfl rfl⟩
theorem mf_X2_guardOn : MFV yX2_guardOn cX2_guardOn 3 ((Option.some Jvm.ClassFile.FieldType.int)) 2 := ⟨⟨gw_t1 181 rfl rfl, gw_t1 2 rfl rfl, ⟨by decide, by decide⟩, by decide⟩, gw_t1 179 rfl rfl, gw_t1 180 rfl rfl⟩
theorem mf_X2_setDuty : MFV yX2_setDuty cX2_setDuty 4 ((Option.none : Option Jvm.ClassFile.FieldType)) 3 := ⟨⟨gw_t3 122 rfl rfl, gw_t1 2 rfl rfl, ⟨by decide, by decide⟩, by decide⟩, gw_t3 120 rfl rfl, gw_t3 121 rfl rfl⟩
theorem mf_X2_gateHeld : MFV yX2_gateHeld cX2_gateHeld 4 ((Option.some Jvm.ClassFile.FieldType.int)) 2 := ⟨⟨gw_t2 104 rfl rfl, gw_t1 2 rfl rfl, ⟨by decide, by decide⟩, by decide⟩, gw_t2 102 rfl rfl, gw_t2 103 rfl rfl⟩
theorem mf_X2_firstGateHeld : MFV yX2_firstGateHeld cX2_firstGateHeld 6 ((Option.some Jvm.ClassFile.FieldType.int)) 3 := ⟨⟨gw_t4 49 rfl rfl, gw_t1 2 rfl rfl, ⟨by decide, by decide⟩, by decide⟩, gw_t4 47 rfl rfl, gw_t4 48 rfl rfl⟩
theorem mf_X2_dutyTotal : MFV yX2_dutyTotal cX2_dutyTotal 4 ((Option.some Jvm.ClassFile.FieldType.int)) 1 := ⟨⟨gw_t3 126 rfl rfl, gw_t1 2 rfl rfl, ⟨by decide, by decide⟩, by decide⟩, gw_t3 124 rfl rfl, gw_t3 125 rfl rfl⟩
theorem mf_X2_allDuties : MFV yX2_allDuties cX2_allDuties 4 ((Option.some Jvm.ClassFile.FieldType.int)) 1 := ⟨⟨gw_t1 169 rfl rfl, gw_t1 2 rfl rfl, ⟨by decide, by decide⟩, by decide⟩, gw_t1 167 rfl rfl, gw_t1 168 rfl rfl⟩
theorem mf_X2_openGatesIn : MFV yX2_openGatesIn cX2_openGatesIn 4 ((Option.some Jvm.ClassFile.FieldType.int)) 1 := ⟨⟨gw_t1 177 rfl rfl, gw_t1 2 rfl rfl, ⟨by decide, by decide⟩, by decide⟩, gw_t1 175 rfl rfl, gw_t1 176 rfl rfl⟩
theorem mf_X2_openSlotsOf : MFV yX2_openSlotsOf cX2_openSlotsOf 4 ((Option.some Jvm.ClassFile.FieldType.int)) 1 := ⟨⟨gw_t1 197 rfl rfl, gw_t1 2 rfl rfl, ⟨by decide, by decide⟩, by decide⟩, gw_t1 195 rfl rfl, gw_t1 196 rfl rfl⟩
theorem mf_X2_reasonAgainst : MFV yX2_reasonAgainst cX2_reasonAgainst 4 ((Option.some Jvm.ClassFile.FieldType.int)) 3 := ⟨⟨gw_t2 84 rfl rfl, gw_t1 2 rfl rfl, ⟨by decide, by decide⟩, by decide⟩, gw_t2 82 rfl rfl, gw_t2 83 rfl rfl⟩
theorem mf_X2_detailOf : MFV yX2_detailOf cX2_detailOf 5 ((Option.some Jvm.ClassFile.FieldType.int)) 4 := ⟨⟨gw_t3 114 rfl rfl, gw_t1 2 rfl rfl, ⟨by decide, by decide⟩, by decide⟩, gw_t3 112 rfl rfl, gw_t3 113 rfl rfl⟩
theorem mf_X2_nextSlotOf : MFV yX2_nextSlotOf cX2_nextSlotOf 3 ((Option.some Jvm.ClassFile.FieldType.int)) 1 := ⟨⟨gw_t4 6 rfl rfl, gw_t1 2 rfl rfl, ⟨by decide, by decide⟩, by decide⟩, gw_t4 4 rfl rfl, gw_t4 5 rfl rfl⟩
theorem mf_X2_longestGap : MFV yX2_longestGap cX2_longestGap 5 ((Option.some Jvm.ClassFile.FieldType.int)) 1 := ⟨⟨gw_t4 18 rfl rfl, gw_t1 2 rfl rfl, ⟨by decide, by decide⟩, by decide⟩, gw_t4 16 rfl rfl, gw_t4 17 rfl rfl⟩
theorem mf_X2_allRest : MFV yX2_allRest cX2_allRest 3 ((Option.some Jvm.ClassFile.FieldType.boolean)) 0 := ⟨⟨gw_t2 134 rfl rfl, gw_t1 2 rfl rfl, ⟨by decide, by decide⟩, by decide⟩, gw_t2 132 rfl rfl, gw_t2 133 rfl rfl⟩
theorem mf_X2_computeOrderKeys : MFV yX2_computeOrderKeys cX2_computeOrderKeys 2 ((Option.none : Option Jvm.ClassFile.FieldType)) 0 := ⟨⟨gw_t3 180 rfl rfl, gw_t1 2 rfl rfl, ⟨by decide, by decide⟩, by decide⟩, gw_t3 179 rfl rfl, gw_p (q := (yX2_computeOrderKeys, 2)) 12 (by decide +kernel)⟩
theorem mf_X2_guardInOrder : MFV yX2_guardInOrder cX2_guardInOrder 3 ((Option.some Jvm.ClassFile.FieldType.int)) 1 := ⟨⟨gw_t4 30 rfl rfl, gw_t1 2 rfl rfl, ⟨by decide, by decide⟩, by decide⟩, gw_t4 28 rfl rfl, gw_t4 29 rfl rfl⟩
theorem mf_X2_guardsBefore : MFV yX2_guardsBefore cX2_guardsBefore 4 ((Option.some Jvm.ClassFile.FieldType.int)) 1 := ⟨⟨gw_t4 34 rfl rfl, gw_t1 2 rfl rfl, ⟨by decide, by decide⟩, by decide⟩, gw_t4 33 rfl rfl, gw_p (q := (yX2_guardsBefore, 2)) 16 (by decide +kernel)⟩
theorem mf_X2_fill : MFV yX2_fill cX2_fill 7 ((Option.some Jvm.ClassFile.FieldType.int)) 1 := ⟨⟨gw_t3 176 rfl rfl, gw_t1 2 rfl rfl, ⟨by decide, by decide⟩, by decide⟩, gw_t3 174 rfl rfl, gw_t3 175 rfl rfl⟩
theorem mf_X2_mostNeedingGate : MFV yX2_mostNeedingGate cX2_mostNeedingGate 5 ((Option.some Jvm.ClassFile.FieldType.int)) 1 := ⟨⟨gw_t3 185 rfl rfl, gw_t1 2 rfl rfl, ⟨by decide, by decide⟩, by decide⟩, gw_t3 184 rfl rfl, gw_p (q := (yX2_mostNeedingGate, 2)) 13 (by decide +kernel)⟩
theorem mf_X2_firstGuardFor : MFV yX2_firstGuardFor cX2_firstGuardFor 6 ((Option.some Jvm.ClassFile.FieldType.int)) 2 := ⟨⟨gw_t3 189 rfl rfl, gw_t1 2 rfl rfl, ⟨by decide, by decide⟩, by decide⟩, gw_t3 188 rfl rfl, gw_p (q := (yX2_firstGuardFor, 2)) 14 (by decide +kernel)⟩
theorem mf_X2_hasLeave : MFV yX2_hasLeave cX2_hasLeave 3 ((Option.some Jvm.ClassFile.FieldType.boolean)) 2 := ⟨⟨gw_t2 100 rfl rfl, gw_t1 2 rfl rfl, ⟨by decide, by decide⟩, by decide⟩, gw_t2 98 rfl rfl, gw_t2 99 rfl rfl⟩
theorem mf_X2_leaveTotal : MFV yX2_leaveTotal cX2_leaveTotal 2 ((Option.some Jvm.ClassFile.FieldType.int)) 1 := ⟨⟨gw_t4 57 rfl rfl, gw_t1 2 rfl rfl, ⟨by decide, by decide⟩, by decide⟩, gw_t4 55 rfl rfl, gw_t4 56 rfl rfl⟩
theorem mf_X2_addLeave : MFV yX2_addLeave cX2_addLeave 6 ((Option.some Jvm.ClassFile.FieldType.int)) 3 := ⟨⟨gw_t4 53 rfl rfl, gw_t1 2 rfl rfl, ⟨by decide, by decide⟩, by decide⟩, gw_t4 51 rfl rfl, gw_t4 52 rfl rfl⟩
theorem mf_X2_dropLeave : MFV yX2_dropLeave cX2_dropLeave 3 ((Option.none : Option Jvm.ClassFile.FieldType)) 2 := ⟨⟨gw_t4 71 rfl rfl, gw_t1 2 rfl rfl, ⟨by decide, by decide⟩, by decide⟩, gw_t4 69 rfl rfl, gw_t4 70 rfl rfl⟩
theorem mf_X2_store : MFV yX2_store cX2_store 2 ((Option.none : Option Jvm.ClassFile.FieldType)) 1 := ⟨⟨gw_t4 101 rfl rfl, gw_t1 2 rfl rfl, ⟨by decide, by decide⟩, by decide⟩, gw_t4 99 rfl rfl, gw_t4 100 rfl rfl⟩
theorem mf_X2_letPass : MFV yX2_letPass cX2_letPass 4 ((Option.some Jvm.ClassFile.FieldType.int)) 1 := ⟨⟨gw_t4 116 rfl rfl, gw_t1 2 rfl rfl, ⟨by decide, by decide⟩, by decide⟩, gw_t4 114 rfl rfl, gw_t4 115 rfl rfl⟩
theorem mf_X2_feedGuardsOf : MFV yX2_feedGuardsOf cX2_feedGuardsOf 5 ((Option.some Jvm.ClassFile.FieldType.int)) 1 := ⟨⟨gw_t4 120 rfl rfl, gw_t1 2 rfl rfl, ⟨by decide, by decide⟩, by decide⟩, gw_t4 119 rfl rfl, gw_p (q := (yX2_feedGuardsOf, 2)) 20 (by decide +kernel)⟩
theorem mf_X3_prepare : MFV yX3_prepare cX3_prepare 4 ((Option.none : Option Jvm.ClassFile.FieldType)) 2 := ⟨⟨gw_t2 75 rfl rfl, gw_t1 4 rfl rfl, ⟨by decide, by decide⟩, by decide⟩, gw_t2 73 rfl rfl, gw_t2 74 rfl rfl⟩
theorem mf_X3_guardsThatFit : MFS yX3_guardsThatFit cX3_guardsThatFit 5 ((Option.some Jvm.ClassFile.FieldType.int)) 3 := ⟨⟨gw_t2 79 rfl rfl, gw_t1 4 rfl rfl, ⟨by decide, by decide⟩, by decide⟩, gw_t2 78 rfl rfl⟩
theorem mf_X3_countByPaths : MFV yX3_countByPaths cX3_countByPaths 3 ((Option.some Jvm.ClassFile.FieldType.int)) 0 := ⟨⟨gw_t2 108 rfl rfl, gw_t1 4 rfl rfl, ⟨by decide, by decide⟩, by decide⟩, gw_t2 106 rfl rfl, gw_t2 107 rfl rfl⟩
theorem mf_X3_finds : MFS yX3_finds cX3_finds 6 ((Option.some Jvm.ClassFile.FieldType.boolean)) 3 := ⟨⟨gw_t2 111 rfl rfl, gw_t1 4 rfl rfl, ⟨by decide, by decide⟩, by decide⟩, gw_t2 110 rfl rfl⟩
theorem mf_X3_countBySets : MFV yX3_countBySets cX3_countBySets 5 ((Option.some Jvm.ClassFile.FieldType.int)) 0 := ⟨⟨gw_t2 119 rfl rfl, gw_t1 4 rfl rfl, ⟨by decide, by decide⟩, by decide⟩, gw_t2 117 rfl rfl, gw_t2 118 rfl rfl⟩
theorem mf_X4_addGate : MFV yX4_addGate cX4_addGate 2 ((Option.some Jvm.ClassFile.FieldType.int)) 1 := ⟨⟨gw_t2 163 rfl rfl, gw_t1 1 rfl rfl, ⟨by decide, by decide⟩, by decide⟩, gw_t2 161 rfl rfl, gw_t2 162 rfl rfl⟩
theorem mf_X4_addGuard : MFV yX4_addGuard cX4_addGuard 2 ((Option.some Jvm.ClassFile.FieldType.int)) 1 := ⟨⟨gw_t3 25 rfl rfl, gw_t1 1 rfl rfl, ⟨by decide, by decide⟩, by decide⟩, gw_t3 23 rfl rfl, gw_t3 24 rfl rfl⟩
theorem mf_X4_gateCount : MFV yX4_gateCount cX4_gateCount 1 ((Option.some Jvm.ClassFile.FieldType.int)) 0 := ⟨⟨gw_t1 149 rfl rfl, gw_t1 1 rfl rfl, ⟨by decide, by decide⟩, by decide⟩, gw_t1 147 rfl rfl, gw_t1 148 rfl rfl⟩
theorem mf_X4_guardCount : MFV yX4_guardCount cX4_guardCount 1 ((Option.some Jvm.ClassFile.FieldType.int)) 0 := ⟨⟨gw_t1 157 rfl rfl, gw_t1 1 rfl rfl, ⟨by decide, by decide⟩, by decide⟩, gw_t1 155 rfl rfl, gw_t1 156 rfl rfl⟩
theorem mf_X4_neededRank : MFV yX4_neededRank cX4_neededRank 2 ((Option.some Jvm.ClassFile.FieldType.int)) 1 := ⟨⟨gw_t3 61 rfl rfl, gw_t1 1 rfl rfl, ⟨by decide, by decide⟩, by decide⟩, gw_t3 59 rfl rfl, gw_t3 60 rfl rfl⟩
theorem mf_X4_rank : MFV yX4_rank cX4_rank 2 ((Option.some Jvm.ClassFile.FieldType.int)) 1 := ⟨⟨gw_t3 71 rfl rfl, gw_t1 1 rfl rfl, ⟨by decide, by decide⟩, by decide⟩, gw_t3 69 rfl rfl, gw_t3 70 rfl rfl⟩
theorem mf_X4_faints : MFV yX4_faints cX4_faints 2 ((Option.some Jvm.ClassFile.FieldType.int)) 1 := ⟨⟨gw_t3 85 rfl rfl, gw_t1 1 rfl rfl, ⟨by decide, by decide⟩, by decide⟩, gw_t3 83 rfl rfl, gw_t3 84 rfl rfl⟩
theorem mf_X4_assign : MFV yX4_assign cX4_assign 4 ((Option.some Jvm.ClassFile.FieldType.int)) 3 := ⟨⟨gw_t3 97 rfl rfl, gw_t1 1 rfl rfl, ⟨by decide, by decide⟩, by decide⟩, gw_t3 95 rfl rfl, gw_t3 96 rfl rfl⟩
theorem mf_X4_canAssign : MFV yX4_canAssign cX4_canAssign 4 ((Option.some Jvm.ClassFile.FieldType.boolean)) 3 := ⟨⟨gw_t3 133 rfl rfl, gw_t1 1 rfl rfl, ⟨by decide, by decide⟩, by decide⟩, gw_t3 131 rfl rfl, gw_t3 132 rfl rfl⟩
theorem mf_X4_remove : MFV yX4_remove cX4_remove 4 ((Option.some Jvm.ClassFile.FieldType.int)) 2 := ⟨⟨gw_t3 141 rfl rfl, gw_t1 1 rfl rfl, ⟨by decide, by decide⟩, by decide⟩, gw_t3 139 rfl rfl, gw_t3 140 rfl rfl⟩
theorem mf_X4_exchange : MFV yX4_exchange cX4_exchange 7 ((Option.some Jvm.ClassFile.FieldType.int)) 4 := ⟨⟨gw_t3 153 rfl rfl, gw_t1 1 rfl rfl, ⟨by decide, by decide⟩, by decide⟩, gw_t3 151 rfl rfl, gw_t3 152 rfl rfl⟩
theorem mf_X4_fillSlot : MFV yX4_fillSlot cX4_fillSlot 2 ((Option.some Jvm.ClassFile.FieldType.int)) 1 := ⟨⟨gw_t3 168 rfl rfl, gw_t1 1 rfl rfl, ⟨by decide, by decide⟩, by decide⟩, gw_t3 166 rfl rfl, gw_t3 167 rfl rfl⟩
theorem mf_X4_guardAt : MFV yX4_guardAt cX4_guardAt 4 ((Option.some Jvm.ClassFile.FieldType.int)) 2 := ⟨⟨gw_t3 198 rfl rfl, gw_t1 1 rfl rfl, ⟨by decide, by decide⟩, by decide⟩, gw_t3 196 rfl rfl, gw_t3 197 rfl rfl⟩
theorem mf_X4_gateOf : MFV yX4_gateOf cX4_gateOf 4 ((Option.some Jvm.ClassFile.FieldType.int)) 2 := ⟨⟨gw_t3 207 rfl rfl, gw_t1 1 rfl rfl, ⟨by decide, by decide⟩, by decide⟩, gw_t3 205 rfl rfl, gw_t3 206 rfl rfl⟩
theorem mf_X4_dutiesOf : MFV yX4_dutiesOf cX4_dutiesOf 2 ((Option.some Jvm.ClassFile.FieldType.int)) 1 := ⟨⟨gw_t3 220 rfl rfl, gw_t1 1 rfl rfl, ⟨by decide, by decide⟩, by decide⟩, gw_t3 218 rfl rfl, gw_t3 219 rfl rfl⟩
theorem mf_X4_dutyCount : MFV yX4_dutyCount cX4_dutyCount 1 ((Option.some Jvm.ClassFile.FieldType.int)) 0 := ⟨⟨gw_t1 165 rfl rfl, gw_t1 1 rfl rfl, ⟨by decide, by decide⟩, by decide⟩, gw_t1 163 rfl rfl, gw_t1 164 rfl rfl⟩
theorem mf_X4_openGates : MFV yX4_openGates cX4_openGates 2 ((Option.some Jvm.ClassFile.FieldType.int)) 1 := ⟨⟨gw_t3 227 rfl rfl, gw_t1 1 rfl rfl, ⟨by decide, by decide⟩, by decide⟩, gw_t3 225 rfl rfl, gw_t3 226 rfl rfl⟩
theorem mf_X4_openPlaces : MFV yX4_openPlaces cX4_openPlaces 3 ((Option.some Jvm.ClassFile.FieldType.int)) 0 := ⟨⟨gw_t1 193 rfl rfl, gw_t1 1 rfl rfl, ⟨by decide, by decide⟩, by decide⟩, gw_t1 191 rfl rfl, gw_t1 192 rfl rfl⟩
theorem mf_X4_openPlacesBySlots : MFV yX4_openPlacesBySlots cX4_openPlacesBySlots 3 ((Option.some Jvm.ClassFile.FieldType.int)) 0 := ⟨⟨gw_t1 205 rfl rfl, gw_t1 1 rfl rfl, ⟨by decide, by decide⟩, by decide⟩, gw_t1 203 rfl rfl, gw_t1 204 rfl rfl⟩
theorem mf_X4_mostDuties : MFV yX4_mostDuties cX4_mostDuties 2 ((Option.some Jvm.ClassFile.FieldType.int)) 1 := ⟨⟨gw_t1 234 rfl rfl, gw_t1 1 rfl rfl, ⟨by decide, by decide⟩, by decide⟩, gw_t1 232 rfl rfl, gw_t1 233 rfl rfl⟩
theorem mf_X4_mostDutiesBySets : MFV yX4_mostDutiesBySets cX4_mostDutiesBySets 2 ((Option.some Jvm.ClassFile.FieldType.int)) 1 := ⟨⟨gw_t2 115 rfl rfl, gw_t1 1 rfl rfl, ⟨by decide, by decide⟩, by decide⟩, gw_t2 113 rfl rfl, gw_t2 114 rfl rfl⟩
theorem mf_X4_nextDuty : MFV yX4_nextDuty cX4_nextDuty 3 ((Option.some Jvm.ClassFile.FieldType.int)) 1 := ⟨⟨gw_t4 2 rfl rfl, gw_t1 1 rfl rfl, ⟨by decide, by decide⟩, by decide⟩, gw_t4 0 rfl rfl, gw_t4 1 rfl rfl⟩
theorem mf_X4_longestRest : MFV yX4_longestRest cX4_longestRest 2 ((Option.some Jvm.ClassFile.FieldType.int)) 1 := ⟨⟨gw_t4 14 rfl rfl, gw_t1 1 rfl rfl, ⟨by decide, by decide⟩, by decide⟩, gw_t4 12 rfl rfl, gw_t4 13 rfl rfl⟩
theorem mf_X4_guardByDuties : MFV yX4_guardByDuties cX4_guardByDuties 2 ((Option.some Jvm.ClassFile.FieldType.int)) 1 := ⟨⟨gw_t4 25 rfl rfl, gw_t1 1 rfl rfl, ⟨by decide, by decide⟩, by decide⟩, gw_t4 23 rfl rfl, gw_t4 24 rfl rfl⟩
theorem mf_X4_grantLeave : MFV yX4_grantLeave cX4_grantLeave 4 ((Option.some Jvm.ClassFile.FieldType.int)) 3 := ⟨⟨gw_t4 41 rfl rfl, gw_t1 1 rfl rfl, ⟨by decide, by decide⟩, by decide⟩, gw_t4 39 rfl rfl, gw_t4 40 rfl rfl⟩
theorem mf_X4_endLeave : MFV yX4_endLeave cX4_endLeave 3 ((Option.some Jvm.ClassFile.FieldType.int)) 2 := ⟨⟨gw_t4 65 rfl rfl, gw_t1 1 rfl rfl, ⟨by decide, by decide⟩, by decide⟩, gw_t4 63 rfl rfl, gw_t4 64 rfl rfl⟩
theorem mf_X4_isOnLeave : MFV yX4_isOnLeave cX4_isOnLeave 3 ((Option.some Jvm.ClassFile.FieldType.boolean)) 2 := ⟨⟨gw_t4 79 rfl rfl, gw_t1 1 rfl rfl, ⟨by decide, by decide⟩, by decide⟩, gw_t4 77 rfl rfl, gw_t4 78 rfl rfl⟩
theorem mf_X4_leaveSlots : MFV yX4_leaveSlots cX4_leaveSlots 2 ((Option.some Jvm.ClassFile.FieldType.int)) 1 := ⟨⟨gw_t4 86 rfl rfl, gw_t1 1 rfl rfl, ⟨by decide, by decide⟩, by decide⟩, gw_t4 84 rfl rfl, gw_t4 85 rfl rfl⟩
theorem mf_X4_addRations : MFV yX4_addRations cX4_addRations 2 ((Option.some Jvm.ClassFile.FieldType.int)) 1 := ⟨⟨gw_t4 93 rfl rfl, gw_t1 1 rfl rfl, ⟨by decide, by decide⟩, by decide⟩, gw_t4 91 rfl rfl, gw_t4 92 rfl rfl⟩
theorem mf_X4_passSlots : MFV yX4_passSlots cX4_passSlots 2 ((Option.some Jvm.ClassFile.FieldType.int)) 1 := ⟨⟨gw_t4 108 rfl rfl, gw_t1 1 rfl rfl, ⟨by decide, by decide⟩, by decide⟩, gw_t4 106 rfl rfl, gw_t4 107 rfl rfl⟩
theorem mf_X4_rations : MFV yX4_rations cX4_rations 1 ((Option.some Jvm.ClassFile.FieldType.int)) 0 := ⟨⟨gw_t1 211 rfl rfl, gw_t1 1 rfl rfl, ⟨by decide, by decide⟩, by decide⟩, gw_t1 209 rfl rfl, gw_t1 210 rfl rfl⟩
theorem mf_X4_currentSlot : MFV yX4_currentSlot cX4_currentSlot 1 ((Option.some Jvm.ClassFile.FieldType.int)) 0 := ⟨⟨gw_t1 219 rfl rfl, gw_t1 1 rfl rfl, ⟨by decide, by decide⟩, by decide⟩, gw_t1 217 rfl rfl, gw_t1 218 rfl rfl⟩
theorem mf_X4_missingRations : MFV yX4_missingRations cX4_missingRations 1 ((Option.some Jvm.ClassFile.FieldType.int)) 0 := ⟨⟨gw_t1 223 rfl rfl, gw_t1 1 rfl rfl, ⟨by decide, by decide⟩, by decide⟩, gw_t1 221 rfl rfl, gw_t1 222 rfl rfl⟩
theorem mf_X4_refusalReason : MFV yX4_refusalReason cX4_refusalReason 1 ((Option.some Jvm.ClassFile.FieldType.int)) 0 := ⟨⟨gw_t4 127 rfl rfl, gw_t1 1 rfl rfl, ⟨by decide, by decide⟩, by decide⟩, gw_t4 125 rfl rfl, gw_t4 126 rfl rfl⟩
theorem mf_X4_refusalDetail : MFV yX4_refusalDetail cX4_refusalDetail 1 ((Option.some Jvm.ClassFile.FieldType.int)) 0 := ⟨⟨gw_t4 139 rfl rfl, gw_t1 1 rfl rfl, ⟨by decide, by decide⟩, by decide⟩, gw_t4 137 rfl rfl, gw_t4 138 rfl rfl⟩
theorem mf_X4_meanDuties : MFV yX4_meanDuties cX4_meanDuties 2 ((Option.some Jvm.ClassFile.FieldType.double)) 0 := ⟨⟨gw_t4 160 rfl rfl, gw_t1 1 rfl rfl, ⟨by decide, by decide⟩, by decide⟩, gw_t4 158 rfl rfl, gw_t4 159 rfl rfl⟩
theorem mf_X4_coveredFraction : MFV yX4_coveredFraction cX4_coveredFraction 2 ((Option.some Jvm.ClassFile.FieldType.float)) 0 := ⟨⟨gw_t4 170 rfl rfl, gw_t1 1 rfl rfl, ⟨by decide, by decide⟩, by decide⟩, gw_t4 168 rfl rfl, gw_t4 169 rfl rfl⟩
theorem mf_X4_writeSlot : MFV yX4_writeSlot cX4_writeSlot 3 ((Option.some Jvm.ClassFile.FieldType.int)) 1 := ⟨⟨gw_t4 178 rfl rfl, gw_t1 1 rfl rfl, ⟨by decide, by decide⟩, by decide⟩, gw_t4 176 rfl rfl, gw_t4 177 rfl rfl⟩
theorem mf_X4_writeGuard : MFV yX4_writeGuard cX4_writeGuard 3 ((Option.some Jvm.ClassFile.FieldType.int)) 1 := ⟨⟨gw_t4 197 rfl rfl, gw_t1 1 rfl rfl, ⟨by decide, by decide⟩, by decide⟩, gw_t4 195 rfl rfl, gw_t4 196 rfl rfl⟩
theorem mf_X4_outputCharacter : MFV yX4_outputCharacter cX4_outputCharacter 2 ((Option.some Jvm.ClassFile.FieldType.char)) 1 := ⟨⟨gw_t4 204 rfl rfl, gw_t1 1 rfl rfl, ⟨by decide, by decide⟩, by decide⟩, gw_t4 202 rfl rfl, gw_t4 203 rfl rfl⟩
theorem mf_X4_isConsistent : MFV yX4_isConsistent cX4_isConsistent 2 ((Option.some Jvm.ClassFile.FieldType.boolean)) 0 := ⟨⟨gw_t1 228 rfl rfl, gw_t1 1 rfl rfl, ⟨by decide, by decide⟩, by decide⟩, gw_t1 226 rfl rfl, gw_t1 227 rfl rfl⟩
theorem mf_X4_feed : MFV yX4_feed cX4_feed 2 ((Option.some Jvm.ClassFile.FieldType.int)) 1 := ⟨⟨gw_t4 212 rfl rfl, gw_t1 1 rfl rfl, ⟨by decide, by decide⟩, by decide⟩, gw_t4 210 rfl rfl, gw_t4 211 rfl rfl⟩
theorem mf_X4_execute : MFV yX4_execute cX4_execute 3 ((Option.some Jvm.ClassFile.FieldType.int)) 0 := ⟨⟨gw_t4 228 rfl rfl, gw_t1 1 rfl rfl, ⟨by decide, by decide⟩, by decide⟩, gw_t4 226 rfl rfl, gw_t4 227 rfl rfl⟩
theorem mf_X4_errorPosition : MFV yX4_errorPosition cX4_errorPosition 1 ((Option.some Jvm.ClassFile.FieldType.int)) 0 := ⟨⟨gw_t5 122 rfl rfl, gw_t1 1 rfl rfl, ⟨by decide, by decide⟩, by decide⟩, gw_t5 120 rfl rfl, gw_t5 121 rfl rfl⟩
theorem mf_X4_failedCommand : MFV yX4_failedCommand cX4_failedCommand 1 ((Option.some Jvm.ClassFile.FieldType.int)) 0 := ⟨⟨gw_t5 130 rfl rfl, gw_t1 1 rfl rfl, ⟨by decide, by decide⟩, by decide⟩, gw_t5 128 rfl rfl, gw_t5 129 rfl rfl⟩
theorem mf_X4_undo : MFV yX4_undo cX4_undo 1 ((Option.some Jvm.ClassFile.FieldType.int)) 0 := ⟨⟨gw_t5 138 rfl rfl, gw_t1 1 rfl rfl, ⟨by decide, by decide⟩, by decide⟩, gw_t5 136 rfl rfl, gw_t5 137 rfl rfl⟩
theorem mf_X4_undoCount : MFV yX4_undoCount cX4_undoCount 1 ((Option.some Jvm.ClassFile.FieldType.int)) 0 := ⟨⟨gw_t2 139 rfl rfl, gw_t1 1 rfl rfl, ⟨by decide, by decide⟩, by decide⟩, gw_t2 137 rfl rfl, gw_t2 138 rfl rfl⟩
theorem mf_X4_save : MFV yX4_save cX4_save 1 ((Option.some Jvm.ClassFile.FieldType.int)) 0 := ⟨⟨gw_t2 147 rfl rfl, gw_t1 1 rfl rfl, ⟨by decide, by decide⟩, by decide⟩, gw_t2 145 rfl rfl, gw_t2 146 rfl rfl⟩
theorem mf_X4_restore : MFV yX4_restore cX4_restore 1 ((Option.some Jvm.ClassFile.FieldType.int)) 0 := ⟨⟨gw_t5 151 rfl rfl, gw_t1 1 rfl rfl, ⟨by decide, by decide⟩, by decide⟩, gw_t5 149 rfl rfl, gw_t5 150 rfl rfl⟩
theorem mf_X4_throwFor : MFS yX4_throwFor cX4_throwFor 1 ((Option.none : Option Jvm.ClassFile.FieldType)) 1 := ⟨⟨gw_t2 173 rfl rfl, gw_t1 1 rfl rfl, ⟨by decide, by decide⟩, by decide⟩, gw_t2 172 rfl rfl⟩
theorem mf_X4_throwUnlessGuard : MFV yX4_throwUnlessGuard cX4_throwUnlessGuard 2 ((Option.none : Option Jvm.ClassFile.FieldType)) 1 := ⟨⟨gw_t3 75 rfl rfl, gw_t1 1 rfl rfl, ⟨by decide, by decide⟩, by decide⟩, gw_t3 74 rfl rfl, gw_p (q := (yX4_throwUnlessGuard, 12)) 4 (by decide +kernel)⟩
theorem mf_X4_throwUnlessSlot : MFV yX4_throwUnlessSlot cX4_throwUnlessSlot 2 ((Option.none : Option Jvm.ClassFile.FieldType)) 1 := ⟨⟨gw_t1 238 rfl rfl, gw_t1 1 rfl rfl, ⟨by decide, by decide⟩, by decide⟩, gw_t1 237 rfl rfl, gw_p (q := (yX4_throwUnlessSlot, 12)) 0 (by decide +kernel)⟩
theorem mf_X4_throwUnlessGuardAndSlot : MFV yX4_throwUnlessGuardAndSlot cX4_throwUnlessGuardAndSlot 3 ((Option.none : Option Jvm.ClassFile.FieldType)) 2 := ⟨⟨gw_t3 211 rfl rfl, gw_t1 1 rfl rfl, ⟨by decide, by decide⟩, by decide⟩, gw_t3 210 rfl rfl, gw_p (q := (yX4_throwUnlessGuardAndSlot, 12)) 15 (by decide +kernel)⟩
theorem mf_X4_throwUnlessRefused : MFV yX4_throwUnlessRefused cX4_throwUnlessRefused 1 ((Option.none : Option Jvm.ClassFile.FieldType)) 0 := ⟨⟨gw_t4 131 rfl rfl, gw_t1 1 rfl rfl, ⟨by decide, by decide⟩, by decide⟩, gw_t4 130 rfl rfl, gw_p (q := (yX4_throwUnlessRefused, 12)) 21 (by decide +kernel)⟩
theorem mf_X4_isRank : MFS yX4_isRank cX4_isRank 1 ((Option.some Jvm.ClassFile.FieldType.boolean)) 1 := ⟨⟨gw_t2 170 rfl rfl, gw_t1 1 rfl rfl, ⟨by decide, by decide⟩, by decide⟩, gw_t2 169 rfl rfl⟩
theorem mf_X4_problemOfGate : MFV yX4_problemOfGate cX4_problemOfGate 2 ((Option.some Jvm.ClassFile.FieldType.int)) 1 := ⟨⟨gw_t2 167 rfl rfl, gw_t1 1 rfl rfl, ⟨by decide, by decide⟩, by decide⟩, gw_t2 166 rfl rfl, gw_p (q := (yX4_problemOfGate, 12)) 2 (by decide +kernel)⟩
theorem mf_X4_problemOfGuard : MFV yX4_problemOfGuard cX4_problemOfGuard 2 ((Option.some Jvm.ClassFile.FieldType.int)) 1 := ⟨⟨gw_t3 29 rfl rfl, gw_t1 1 rfl rfl, ⟨by decide, by decide⟩, by decide⟩, gw_t3 28 rfl rfl, gw_p (q := (yX4_problemOfGuard, 12)) 3 (by decide +kernel)⟩
theorem mf_X4_problemOfDuty : MFV yX4_problemOfDuty cX4_problemOfDuty 4 ((Option.some Jvm.ClassFile.FieldType.int)) 3 := ⟨⟨gw_t3 101 rfl rfl, gw_t1 1 rfl rfl, ⟨by decide, by decide⟩, by decide⟩, gw_t3 100 rfl rfl, gw_p (q := (yX4_problemOfDuty, 12)) 5 (by decide +kernel)⟩
theorem mf_X4_problemOfFreeing : MFV yX4_problemOfFreeing cX4_problemOfFreeing 3 ((Option.some Jvm.ClassFile.FieldType.int)) 2 := ⟨⟨gw_t3 145 rfl rfl, gw_t1 1 rfl rfl, ⟨by decide, by decide⟩, by decide⟩, gw_t3 144 rfl rfl, gw_p (q := (yX4_problemOfFreeing, 12)) 8 (by decide +kernel)⟩
theorem mf_X4_problemOfExchange : MFV yX4_problemOfExchange cX4_problemOfExchange 5 ((Option.some Jvm.ClassFile.FieldType.int)) 4 := ⟨⟨gw_t3 157 rfl rfl, gw_t1 1 rfl rfl, ⟨by decide, by decide⟩, by decide⟩, gw_t3 156 rfl rfl, gw_p (q := (yX4_problemOfExchange, 12)) 9 (by decide +kernel)⟩
theorem mf_X4_problemOfFilling : MFV yX4_problemOfFilling cX4_problemOfFilling 2 ((Option.some Jvm.ClassFile.FieldType.int)) 1 := ⟨⟨gw_t3 172 rfl rfl, gw_t1 1 rfl rfl, ⟨by decide, by decide⟩, by decide⟩, gw_t3 171 rfl rfl, gw_p (q := (yX4_problemOfFilling, 12)) 11 (by decide +kernel)⟩
theorem mf_X4_problemOfLeave : MFV yX4_problemOfLeave cX4_problemOfLeave 5 ((Option.some Jvm.ClassFile.FieldType.int)) 3 := ⟨⟨gw_t4 45 rfl rfl, gw_t1 1 rfl rfl, ⟨by decide, by decide⟩, by decide⟩, gw_t4 44 rfl rfl, gw_p (q := (yX4_problemOfLeave, 12)) 17 (by decide +kernel)⟩
theorem mf_X4_problemOfFood : MFV yX4_problemOfFood cX4_problemOfFood 2 ((Option.some Jvm.ClassFile.FieldType.int)) 1 := ⟨⟨gw_t4 97 rfl rfl, gw_t1 1 rfl rfl, ⟨by decide, by decide⟩, by decide⟩, gw_t4 96 rfl rfl, gw_p (q := (yX4_problemOfFood, 12)) 18 (by decide +kernel)⟩
theorem mf_X4_problemOfPassing : MFV yX4_problemOfPassing cX4_problemOfPassing 2 ((Option.some Jvm.ClassFile.FieldType.int)) 1 := ⟨⟨gw_t4 112 rfl rfl, gw_t1 1 rfl rfl, ⟨by decide, by decide⟩, by decide⟩, gw_t4 111 rfl rfl, gw_p (q := (yX4_problemOfPassing, 12)) 19 (by decide +kernel)⟩
theorem mf_X4_isRefused : MFV yX4_isRefused cX4_isRefused 5 ((Option.some Jvm.ClassFile.FieldType.boolean)) 3 := ⟨⟨gw_t3 109 rfl rfl, gw_t1 1 rfl rfl, ⟨by decide, by decide⟩, by decide⟩, gw_t3 108 rfl rfl, gw_p (q := (yX4_isRefused, 12)) 6 (by decide +kernel)⟩
theorem mf_X4_isExchangeRefused : MFV yX4_isExchangeRefused cX4_isExchangeRefused 8 ((Option.some Jvm.ClassFile.FieldType.boolean)) 4 := ⟨⟨gw_t3 161 rfl rfl, gw_t1 1 rfl rfl, ⟨by decide, by decide⟩, by decide⟩, gw_t3 160 rfl rfl, gw_p (q := (yX4_isExchangeRefused, 12)) 10 (by decide +kernel)⟩
theorem mf_X4_keepRefusal : MFV yX4_keepRefusal cX4_keepRefusal 3 ((Option.none : Option Jvm.ClassFile.FieldType)) 2 := ⟨⟨gw_t3 118 rfl rfl, gw_t1 1 rfl rfl, ⟨by decide, by decide⟩, by decide⟩, gw_t3 117 rfl rfl, gw_p (q := (yX4_keepRefusal, 12)) 7 (by decide +kernel)⟩
theorem mf_X4_runs : MFV yX4_runs cX4_runs 6 ((Option.some Jvm.ClassFile.FieldType.boolean)) 1 := ⟨⟨gw_t5 89 rfl rfl, gw_t1 1 rfl rfl, ⟨by decide, by decide⟩, by decide⟩, gw_t5 88 rfl rfl, gw_p (q := (yX4_runs, 12)) 29 (by decide +kernel)⟩
theorem mf_X4_problemOfCommand : MFV yX4_problemOfCommand cX4_problemOfCommand 5 ((Option.some Jvm.ClassFile.FieldType.int)) 4 := ⟨⟨gw_t5 101 rfl rfl, gw_t1 1 rfl rfl, ⟨by decide, by decide⟩, by decide⟩, gw_t5 100 rfl rfl, gw_p (q := (yX4_problemOfCommand, 12)) 30 (by decide +kernel)⟩
theorem mf_X4_carryOut : MFV yX4_carryOut cX4_carryOut 5 ((Option.none : Option Jvm.ClassFile.FieldType)) 4 := ⟨⟨gw_t5 105 rfl rfl, gw_t1 1 rfl rfl, ⟨by decide, by decide⟩, by decide⟩, gw_t5 104 rfl rfl, gw_p (q := (yX4_carryOut, 12)) 31 (by decide +kernel)⟩
theorem mf_X4_put : MFV yX4_put cX4_put 2 ((Option.none : Option Jvm.ClassFile.FieldType)) 1 := ⟨⟨gw_t4 182 rfl rfl, gw_t1 1 rfl rfl, ⟨by decide, by decide⟩, by decide⟩, gw_t4 181 rfl rfl, gw_p (q := (yX4_put, 12)) 22 (by decide +kernel)⟩
theorem mf_X4_putNumber : MFV yX4_putNumber cX4_putNumber 2 ((Option.none : Option Jvm.ClassFile.FieldType)) 1 := ⟨⟨gw_t4 186 rfl rfl, gw_t1 1 rfl rfl, ⟨by decide, by decide⟩, by decide⟩, gw_t4 185 rfl rfl, gw_p (q := (yX4_putNumber, 12)) 23 (by decide +kernel)⟩
theorem mf_X4_putNumberOr : MFV yX4_putNumberOr cX4_putNumberOr 3 ((Option.none : Option Jvm.ClassFile.FieldType)) 2 := ⟨⟨gw_t4 190 rfl rfl, gw_t1 1 rfl rfl, ⟨by decide, by decide⟩, by decide⟩, gw_t4 189 rfl rfl, gw_p (q := (yX4_putNumberOr, 12)) 24 (by decide +kernel)⟩
theorem mf_X5_thrown : MFV yX5_thrown cX5_thrown 1 ((Option.some Jvm.ClassFile.FieldType.int)) 0 := ⟨⟨gw_t5 231 rfl rfl, gw_t1 6 rfl rfl, ⟨by decide, by decide⟩, by decide⟩, gw_t5 229 rfl rfl, gw_t5 230 rfl rfl⟩
theorem mf_X5_fails : MFV yX5_fails cX5_fails 2 ((Option.some Jvm.ClassFile.FieldType.boolean)) 1 := ⟨⟨gw_t6 2 rfl rfl, gw_t1 6 rfl rfl, ⟨by decide, by decide⟩, by decide⟩, gw_t6 1 rfl rfl, gw_p (q := (yX5_fails, 21)) 32 (by decide +kernel)⟩
theorem mf_X5_in : MFS yX5_in cX5_in 3 ((Option.some Jvm.ClassFile.FieldType.boolean)) 3 := ⟨⟨gw_t5 238 rfl rfl, gw_t1 6 rfl rfl, ⟨by decide, by decide⟩, by decide⟩, gw_t5 237 rfl rfl⟩
theorem mf_X5_copies : MFS yX5_copies cX5_copies 5 ((Option.none : Option Jvm.ClassFile.FieldType)) 4 := ⟨⟨gw_t6 9 rfl rfl, gw_t1 6 rfl rfl, ⟨by decide, by decide⟩, by decide⟩, gw_t6 8 rfl rfl⟩
theorem mf_X5_keeps : MFV yX5_keeps cX5_keeps 3 ((Option.none : Option Jvm.ClassFile.FieldType)) 1 := ⟨⟨gw_t6 6 rfl rfl, gw_t1 6 rfl rfl, ⟨by decide, by decide⟩, by decide⟩, gw_t6 5 rfl rfl, gw_p (q := (yX5_keeps, 21)) 33 (by decide +kernel)⟩
theorem mf_X5_isGate : MFV yX5_isGate cX5_isGate 2 ((Option.some Jvm.ClassFile.FieldType.boolean)) 1 := ⟨⟨gw_t6 29 rfl rfl, gw_t1 6 rfl rfl, ⟨by decide, by decide⟩, by decide⟩, gw_t6 28 rfl rfl, gw_p (q := (yX5_isGate, 21)) 34 (by decide +kernel)⟩
theorem mf_X5_isGuard : MFV yX5_isGuard cX5_isGuard 2 ((Option.some Jvm.ClassFile.FieldType.boolean)) 1 := ⟨⟨gw_t6 41 rfl rfl, gw_t1 6 rfl rfl, ⟨by decide, by decide⟩, by decide⟩, gw_t6 40 rfl rfl, gw_p (q := (yX5_isGuard, 21)) 36 (by decide +kernel)⟩
theorem mf_X5_isSlot : MFS yX5_isSlot cX5_isSlot 1 ((Option.some Jvm.ClassFile.FieldType.boolean)) 1 := ⟨⟨gw_t6 60 rfl rfl, gw_t1 6 rfl rfl, ⟨by decide, by decide⟩, by decide⟩, gw_t6 59 rfl rfl⟩
theorem mf_X5_arePlace : MFV yX5_arePlace cX5_arePlace 3 ((Option.some Jvm.ClassFile.FieldType.boolean)) 2 := ⟨⟨gw_t6 57 rfl rfl, gw_t1 6 rfl rfl, ⟨by decide, by decide⟩, by decide⟩, gw_t6 56 rfl rfl, gw_p (q := (yX5_arePlace, 21)) 38 (by decide +kernel)⟩
theorem mf_X5_ranked : MFV yX5_ranked cX5_ranked 2 ((Option.some Jvm.ClassFile.FieldType.int)) 1 := ⟨⟨gw_t6 45 rfl rfl, gw_t1 6 rfl rfl, ⟨by decide, by decide⟩, by decide⟩, gw_t6 44 rfl rfl, gw_p (q := (yX5_ranked, 21)) 37 (by decide +kernel)⟩
theorem mf_X5_who : MFV yX5_who cX5_who 3 ((Option.some Jvm.ClassFile.FieldType.int)) 2 := ⟨⟨gw_t6 72 rfl rfl, gw_t1 6 rfl rfl, ⟨by decide, by decide⟩, by decide⟩, gw_t6 71 rfl rfl, gw_p (q := (yX5_who, 21)) 41 (by decide +kernel)⟩
theorem mf_X5_puts : MFV yX5_puts cX5_puts 4 ((Option.none : Option Jvm.ClassFile.FieldType)) 3 := ⟨⟨gw_t6 84 rfl rfl, gw_t1 6 rfl rfl, ⟨by decide, by decide⟩, by decide⟩, gw_t6 83 rfl rfl, gw_p (q := (yX5_puts, 21)) 44 (by decide +kernel)⟩
theorem mf_X5_where : MFV yX5_where cX5_where 4 ((Option.some Jvm.ClassFile.FieldType.int)) 2 := ⟨⟨gw_t6 80 rfl rfl, gw_t1 6 rfl rfl, ⟨by decide, by decide⟩, by decide⟩, gw_t6 79 rfl rfl, gw_p (q := (yX5_where, 21)) 43 (by decide +kernel)⟩
theorem mf_X5_isOff : MFV yX5_isOff cX5_isOff 3 ((Option.some Jvm.ClassFile.FieldType.boolean)) 2 := ⟨⟨gw_t6 76 rfl rfl, gw_t1 6 rfl rfl, ⟨by decide, by decide⟩, by decide⟩, gw_t6 75 rfl rfl, gw_p (q := (yX5_isOff, 21)) 42 (by decide +kernel)⟩
theorem mf_X5_addGate : MFV yX5_addGate cX5_addGate 2 ((Option.some Jvm.ClassFile.FieldType.int)) 1 := ⟨⟨gw_t5 235 rfl rfl, gw_t1 6 rfl rfl, ⟨by decide, by decide⟩, by decide⟩, gw_t5 233 rfl rfl, gw_t5 234 rfl rfl⟩
theorem mf_X5_addGuard : MFV yX5_addGuard cX5_addGuard 2 ((Option.some Jvm.ClassFile.FieldType.int)) 1 := ⟨⟨gw_t6 13 rfl rfl, gw_t1 6 rfl rfl, ⟨by decide, by decide⟩, by decide⟩, gw_t6 11 rfl rfl, gw_t6 12 rfl rfl⟩
theorem mf_X5_gateCount : MFV yX5_gateCount cX5_gateCount 1 ((Option.some Jvm.ClassFile.FieldType.int)) 0 := ⟨⟨gw_t6 17 rfl rfl, gw_t1 6 rfl rfl, ⟨by decide, by decide⟩, by decide⟩, gw_t6 15 rfl rfl, gw_t6 16 rfl rfl⟩
theorem mf_X5_guardCount : MFV yX5_guardCount cX5_guardCount 1 ((Option.some Jvm.ClassFile.FieldType.int)) 0 := ⟨⟨gw_t6 21 rfl rfl, gw_t1 6 rfl rfl, ⟨by decide, by decide⟩, by decide⟩, gw_t6 19 rfl rfl, gw_t6 20 rfl rfl⟩
theorem mf_X5_neededRank : MFV yX5_neededRank cX5_neededRank 2 ((Option.some Jvm.ClassFile.FieldType.int)) 1 := ⟨⟨gw_t6 25 rfl rfl, gw_t1 6 rfl rfl, ⟨by decide, by decide⟩, by decide⟩, gw_t6 23 rfl rfl, gw_t6 24 rfl rfl⟩
theorem mf_X5_isNone : MFV yX5_isNone cX5_isNone 2 ((Option.some Jvm.ClassFile.FieldType.boolean)) 1 := ⟨⟨gw_t6 37 rfl rfl, gw_t1 6 rfl rfl, ⟨by decide, by decide⟩, by decide⟩, gw_t6 36 rfl rfl, gw_p (q := (yX5_isNone, 21)) 35 (by decide +kernel)⟩
theorem mf_X5_rank : MFV yX5_rank cX5_rank 2 ((Option.some Jvm.ClassFile.FieldType.int)) 1 := ⟨⟨gw_t6 33 rfl rfl, gw_t1 6 rfl rfl, ⟨by decide, by decide⟩, by decide⟩, gw_t6 31 rfl rfl, gw_t6 32 rfl rfl⟩
theorem mf_X5_faints : MFV yX5_faints cX5_faints 2 ((Option.some Jvm.ClassFile.FieldType.int)) 1 := ⟨⟨gw_t6 49 rfl rfl, gw_t1 6 rfl rfl, ⟨by decide, by decide⟩, by decide⟩, gw_t6 47 rfl rfl, gw_t6 48 rfl rfl⟩
theorem mf_X5_refuses : MFV yX5_refuses cX5_refuses 4 ((Option.some Jvm.ClassFile.FieldType.int)) 3 := ⟨⟨gw_t6 68 rfl rfl, gw_t1 6 rfl rfl, ⟨by decide, by decide⟩, by decide⟩, gw_t6 67 rfl rfl, gw_p (q := (yX5_refuses, 21)) 40 (by decide +kernel)⟩
theorem mf_X5_isRefused : MFV yX5_isRefused cX5_isRefused 6 ((Option.some Jvm.ClassFile.FieldType.boolean)) 4 := ⟨⟨gw_t6 64 rfl rfl, gw_t1 6 rfl rfl, ⟨by decide, by decide⟩, by decide⟩, gw_t6 63 rfl rfl, gw_p (q := (yX5_isRefused, 21)) 39 (by decide +kernel)⟩
theorem mf_X5_duties : MFV yX5_duties cX5_duties 4 ((Option.some Jvm.ClassFile.FieldType.int)) 1 := ⟨⟨gw_t6 88 rfl rfl, gw_t1 6 rfl rfl, ⟨by decide, by decide⟩, by decide⟩, gw_t6 87 rfl rfl, gw_p (q := (yX5_duties, 21)) 45 (by decide +kernel)⟩
theorem mf_X5_assign : MFV yX5_assign cX5_assign 4 ((Option.some Jvm.ClassFile.FieldType.int)) 3 := ⟨⟨gw_t6 53 rfl rfl, gw_t1 6 rfl rfl, ⟨by decide, by decide⟩, by decide⟩, gw_t6 51 rfl rfl, gw_t6 52 rfl rfl⟩
theorem mf_X5_canAssign : MFV yX5_canAssign cX5_canAssign 4 ((Option.some Jvm.ClassFile.FieldType.boolean)) 3 := ⟨⟨gw_t6 92 rfl rfl, gw_t1 6 rfl rfl, ⟨by decide, by decide⟩, by decide⟩, gw_t6 90 rfl rfl, gw_t6 91 rfl rfl⟩
theorem mf_X5_remove : MFV yX5_remove cX5_remove 4 ((Option.some Jvm.ClassFile.FieldType.int)) 2 := ⟨⟨gw_t6 96 rfl rfl, gw_t1 6 rfl rfl, ⟨by decide, by decide⟩, by decide⟩, gw_t6 94 rfl rfl, gw_t6 95 rfl rfl⟩
theorem mf_X5_exchange : MFV yX5_exchange cX5_exchange 8 ((Option.some Jvm.ClassFile.FieldType.int)) 4 := ⟨⟨gw_t6 100 rfl rfl, gw_t1 6 rfl rfl, ⟨by decide, by decide⟩, by decide⟩, gw_t6 98 rfl rfl, gw_t6 99 rfl rfl⟩
theorem mf_X5_nextGate : MFV yX5_nextGate cX5_nextGate 5 ((Option.some Jvm.ClassFile.FieldType.int)) 2 := ⟨⟨gw_t6 108 rfl rfl, gw_t1 6 rfl rfl, ⟨by decide, by decide⟩, by decide⟩, gw_t6 107 rfl rfl, gw_p (q := (yX5_nextGate, 21)) 46 (by decide +kernel)⟩
theorem mf_X5_isAhead : MFV yX5_isAhead cX5_isAhead 4 ((Option.some Jvm.ClassFile.FieldType.boolean)) 2 := ⟨⟨gw_t6 116 rfl rfl, gw_t1 6 rfl rfl, ⟨by decide, by decide⟩, by decide⟩, gw_t6 115 rfl rfl, gw_p (q := (yX5_isAhead, 21)) 48 (by decide +kernel)⟩
theorem mf_X5_chosen : MFV yX5_chosen cX5_chosen 5 ((Option.some Jvm.ClassFile.FieldType.int)) 2 := ⟨⟨gw_t6 112 rfl rfl, gw_t1 6 rfl rfl, ⟨by decide, by decide⟩, by decide⟩, gw_t6 111 rfl rfl, gw_p (q := (yX5_chosen, 21)) 47 (by decide +kernel)⟩
theorem mf_X5_fillSlot : MFV yX5_fillSlot cX5_fillSlot 6 ((Option.some Jvm.ClassFile.FieldType.int)) 1 := ⟨⟨gw_t6 104 rfl rfl, gw_t1 6 rfl rfl, ⟨by decide, by decide⟩, by decide⟩, gw_t6 102 rfl rfl, gw_t6 103 rfl rfl⟩
theorem mf_X5_guardAt : MFV yX5_guardAt cX5_guardAt 3 ((Option.some Jvm.ClassFile.FieldType.int)) 2 := ⟨⟨gw_t6 120 rfl rfl, gw_t1 6 rfl rfl, ⟨by decide, by decide⟩, by decide⟩, gw_t6 118 rfl rfl, gw_t6 119 rfl rfl⟩
theorem mf_X5_gateOf : MFV yX5_gateOf cX5_gateOf 3 ((Option.some Jvm.ClassFile.FieldType.int)) 2 := ⟨⟨gw_t6 124 rfl rfl, gw_t1 6 rfl rfl, ⟨by decide, by decide⟩, by decide⟩, gw_t6 122 rfl rfl, gw_t6 123 rfl rfl⟩
theorem mf_X5_dutiesOf : MFV yX5_dutiesOf cX5_dutiesOf 2 ((Option.some Jvm.ClassFile.FieldType.int)) 1 := ⟨⟨gw_t6 128 rfl rfl, gw_t1 6 rfl rfl, ⟨by decide, by decide⟩, by decide⟩, gw_t6 126 rfl rfl, gw_t6 127 rfl rfl⟩
theorem mf_X5_allDuties : MFV yX5_allDuties cX5_allDuties 3 ((Option.some Jvm.ClassFile.FieldType.int)) 0 := ⟨⟨gw_t6 136 rfl rfl, gw_t1 6 rfl rfl, ⟨by decide, by decide⟩, by decide⟩, gw_t6 135 rfl rfl, gw_p (q := (yX5_allDuties, 21)) 49 (by decide +kernel)⟩
theorem mf_X5_dutyCount : MFV yX5_dutyCount cX5_dutyCount 1 ((Option.some Jvm.ClassFile.FieldType.int)) 0 := ⟨⟨gw_t6 132 rfl rfl, gw_t1 6 rfl rfl, ⟨by decide, by decide⟩, by decide⟩, gw_t6 130 rfl rfl, gw_t6 131 rfl rfl⟩
theorem mf_X5_open : MFV yX5_open cX5_open 4 ((Option.some Jvm.ClassFile.FieldType.int)) 1 := ⟨⟨gw_t6 144 rfl rfl, gw_t1 6 rfl rfl, ⟨by decide, by decide⟩, by decide⟩, gw_t6 143 rfl rfl, gw_p (q := (yX5_open, 21)) 50 (by decide +kernel)⟩
theorem mf_X5_openGates : MFV yX5_openGates cX5_openGates 2 ((Option.some Jvm.ClassFile.FieldType.int)) 1 := ⟨⟨gw_t6 140 rfl rfl, gw_t1 6 rfl rfl, ⟨by decide, by decide⟩, by decide⟩, gw_t6 138 rfl rfl, gw_t6 139 rfl rfl⟩
theorem mf_X5_openFromNow : MFV yX5_openFromNow cX5_openFromNow 3 ((Option.some Jvm.ClassFile.FieldType.int)) 0 := ⟨⟨gw_t6 152 rfl rfl, gw_t1 6 rfl rfl, ⟨by decide, by decide⟩, by decide⟩, gw_t6 151 rfl rfl, gw_p (q := (yX5_openFromNow, 21)) 51 (by decide +kernel)⟩
theorem mf_X5_openPlaces : MFV yX5_openPlaces cX5_openPlaces 1 ((Option.some Jvm.ClassFile.FieldType.int)) 0 := ⟨⟨gw_t6 148 rfl rfl, gw_t1 6 rfl rfl, ⟨by decide, by decide⟩, by decide⟩, gw_t6 146 rfl rfl, gw_t6 147 rfl rfl⟩
theorem mf_X5_openPlacesBySlots : MFV yX5_openPlacesBySlots cX5_openPlacesBySlots 1 ((Option.some Jvm.ClassFile.FieldType.int)) 0 := ⟨⟨gw_t6 156 rfl rfl, gw_t1 6 rfl rfl, ⟨by decide, by decide⟩, by decide⟩, gw_t6 154 rfl rfl, gw_t6 155 rfl rfl⟩
theorem mf_X5_most : MFV yX5_most cX5_most 6 ((Option.some Jvm.ClassFile.FieldType.int)) 1 := ⟨⟨gw_t6 164 rfl rfl, gw_t1 6 rfl rfl, ⟨by decide, by decide⟩, by decide⟩, gw_t6 163 rfl rfl, gw_p (q := (yX5_most, 21)) 52 (by decide +kernel)⟩
theorem mf_X5_mostDuties : MFV yX5_mostDuties cX5_mostDuties 2 ((Option.some Jvm.ClassFile.FieldType.int)) 1 := ⟨⟨gw_t6 160 rfl rfl, gw_t1 6 rfl rfl, ⟨by decide, by decide⟩, by decide⟩, gw_t6 158 rfl rfl, gw_t6 159 rfl rfl⟩
theorem mf_X5_mostDutiesBySets : MFV yX5_mostDutiesBySets cX5_mostDutiesBySets 2 ((Option.some Jvm.ClassFile.FieldType.int)) 1 := ⟨⟨gw_t6 168 rfl rfl, gw_t1 6 rfl rfl, ⟨by decide, by decide⟩, by decide⟩, gw_t6 166 rfl rfl, gw_t6 167 rfl rfl⟩
theorem mf_X5_following : MFV yX5_following cX5_following 3 ((Option.some Jvm.ClassFile.FieldType.int)) 1 := ⟨⟨gw_t6 176 rfl rfl, gw_t1 6 rfl rfl, ⟨by decide, by decide⟩, by decide⟩, gw_t6 175 rfl rfl, gw_p (q := (yX5_following, 21)) 53 (by decide +kernel)⟩
theorem mf_X5_nextDuty : MFV yX5_nextDuty cX5_nextDuty 2 ((Option.some Jvm.ClassFile.FieldType.int)) 1 := ⟨⟨gw_t6 172 rfl rfl, gw_t1 6 rfl rfl, ⟨by decide, by decide⟩, by decide⟩, gw_t6 170 rfl rfl, gw_t6 171 rfl rfl⟩
theorem mf_X5_longestRest : MFV yX5_longestRest cX5_longestRest 5 ((Option.some Jvm.ClassFile.FieldType.int)) 1 := ⟨⟨gw_t6 180 rfl rfl, gw_t1 6 rfl rfl, ⟨by decide, by decide⟩, by decide⟩, gw_t6 178 rfl rfl, gw_t6 179 rfl rfl⟩
theorem mf_X5_guardByDuties : MFV yX5_guardByDuties cX5_guardByDuties 5 ((Option.some Jvm.ClassFile.FieldType.int)) 1 := ⟨⟨gw_t6 184 rfl rfl, gw_t1 6 rfl rfl, ⟨by decide, by decide⟩, by decide⟩, gw_t6 182 rfl rfl, gw_t6 183 rfl rfl⟩
theorem mf_X5_bits : MFS yX5_bits cX5_bits 3 ((Option.some Jvm.ClassFile.FieldType.int)) 1 := ⟨⟨gw_t6 191 rfl rfl, gw_t1 6 rfl rfl, ⟨by decide, by decide⟩, by decide⟩, gw_t6 190 rfl rfl⟩
theorem mf_X5_grantLeave : MFV yX5_grantLeave cX5_grantLeave 6 ((Option.some Jvm.ClassFile.FieldType.int)) 3 := ⟨⟨gw_t6 188 rfl rfl, gw_t1 6 rfl rfl, ⟨by decide, by decide⟩, by decide⟩, gw_t6 186 rfl rfl, gw_t6 187 rfl rfl⟩
theorem mf_X5_endLeave : MFV yX5_endLeave cX5_endLeave 3 ((Option.some Jvm.ClassFile.FieldType.int)) 2 := ⟨⟨gw_t6 195 rfl rfl, gw_t1 6 rfl rfl, ⟨by decide, by decide⟩, by decide⟩, gw_t6 193 rfl rfl, gw_t6 194 rfl rfl⟩
theorem mf_X5_isOnLeave : MFV yX5_isOnLeave cX5_isOnLeave 3 ((Option.some Jvm.ClassFile.FieldType.boolean)) 2 := ⟨⟨gw_t6 199 rfl rfl, gw_t1 6 rfl rfl, ⟨by decide, by decide⟩, by decide⟩, gw_t6 197 rfl rfl, gw_t6 198 rfl rfl⟩
theorem mf_X5_leaveSlots : MFV yX5_leaveSlots cX5_leaveSlots 2 ((Option.some Jvm.ClassFile.FieldType.int)) 1 := ⟨⟨gw_t6 203 rfl rfl, gw_t1 6 rfl rfl, ⟨by decide, by decide⟩, by decide⟩, gw_t6 201 rfl rfl, gw_t6 202 rfl rfl⟩
theorem mf_X5_addRations : MFV yX5_addRations cX5_addRations 2 ((Option.some Jvm.ClassFile.FieldType.int)) 1 := ⟨⟨gw_t6 207 rfl rfl, gw_t1 6 rfl rfl, ⟨by decide, by decide⟩, by decide⟩, gw_t6 205 rfl rfl, gw_t6 206 rfl rfl⟩
theorem mf_X5_goes : MFV yX5_goes cX5_goes 4 ((Option.some Jvm.ClassFile.FieldType.int)) 0 := ⟨⟨gw_t6 215 rfl rfl, gw_t1 6 rfl rfl, ⟨by decide, by decide⟩, by decide⟩, gw_t6 214 rfl rfl, gw_p (q := (yX5_goes, 21)) 54 (by decide +kernel)⟩
theorem mf_X5_passSlots : MFV yX5_passSlots cX5_passSlots 4 ((Option.some Jvm.ClassFile.FieldType.int)) 1 := ⟨⟨gw_t6 211 rfl rfl, gw_t1 6 rfl rfl, ⟨by decide, by decide⟩, by decide⟩, gw_t6 209 rfl rfl, gw_t6 210 rfl rfl⟩
theorem mf_X5_rations : MFV yX5_rations cX5_rations 1 ((Option.some Jvm.ClassFile.FieldType.int)) 0 := ⟨⟨gw_t6 219 rfl rfl, gw_t1 6 rfl rfl, ⟨by decide, by decide⟩, by decide⟩, gw_t6 217 rfl rfl, gw_t6 218 rfl rfl⟩
theorem mf_X5_currentSlot : MFV yX5_currentSlot cX5_currentSlot 1 ((Option.some Jvm.ClassFile.FieldType.int)) 0 := ⟨⟨gw_t6 223 rfl rfl, gw_t1 6 rfl rfl, ⟨by decide, by decide⟩, by decide⟩, gw_t6 221 rfl rfl, gw_t6 222 rfl rfl⟩
theorem mf_X5_missingRations : MFV yX5_missingRations cX5_missingRations 3 ((Option.some Jvm.ClassFile.FieldType.int)) 0 := ⟨⟨gw_t6 227 rfl rfl, gw_t1 6 rfl rfl, ⟨by decide, by decide⟩, by decide⟩, gw_t6 225 rfl rfl, gw_t6 226 rfl rfl⟩
theorem mf_X5_refusalReason : MFV yX5_refusalReason cX5_refusalReason 1 ((Option.some Jvm.ClassFile.FieldType.int)) 0 := ⟨⟨gw_t6 231 rfl rfl, gw_t1 6 rfl rfl, ⟨by decide, by decide⟩, by decide⟩, gw_t6 229 rfl rfl, gw_t6 230 rfl rfl⟩
theorem mf_X5_refusalDetail : MFV yX5_refusalDetail cX5_refusalDetail 1 ((Option.some Jvm.ClassFile.FieldType.int)) 0 := ⟨⟨gw_t6 235 rfl rfl, gw_t1 6 rfl rfl, ⟨by decide, by decide⟩, by decide⟩, gw_t6 233 rfl rfl, gw_t6 234 rfl rfl⟩
theorem mf_X5_meanDuties : MFV yX5_meanDuties cX5_meanDuties 1 ((Option.some Jvm.ClassFile.FieldType.double)) 0 := ⟨⟨gw_t6 239 rfl rfl, gw_t1 6 rfl rfl, ⟨by decide, by decide⟩, by decide⟩, gw_t6 237 rfl rfl, gw_t6 238 rfl rfl⟩
theorem mf_X5_coveredFraction : MFV yX5_coveredFraction cX5_coveredFraction 1 ((Option.some Jvm.ClassFile.FieldType.float)) 0 := ⟨⟨gw_t7 3 rfl rfl, gw_t1 6 rfl rfl, ⟨by decide, by decide⟩, by decide⟩, gw_t7 1 rfl rfl, gw_t7 2 rfl rfl⟩
theorem mf_X5_writes : MFV yX5_writes cX5_writes 2 ((Option.none : Option Jvm.ClassFile.FieldType)) 1 := ⟨⟨gw_t7 11 rfl rfl, gw_t1 6 rfl rfl, ⟨by decide, by decide⟩, by decide⟩, gw_t7 10 rfl rfl, gw_p (q := (yX5_writes, 21)) 55 (by decide +kernel)⟩
theorem mf_X5_writeSlot : MFV yX5_writeSlot cX5_writeSlot 3 ((Option.some Jvm.ClassFile.FieldType.int)) 1 := ⟨⟨gw_t7 7 rfl rfl, gw_t1 6 rfl rfl, ⟨by decide, by decide⟩, by decide⟩, gw_t7 5 rfl rfl, gw_t7 6 rfl rfl⟩
theorem mf_X5_writeGuard : MFV yX5_writeGuard cX5_writeGuard 3 ((Option.some Jvm.ClassFile.FieldType.int)) 1 := ⟨⟨gw_t7 15 rfl rfl, gw_t1 6 rfl rfl, ⟨by decide, by decide⟩, by decide⟩, gw_t7 13 rfl rfl, gw_t7 14 rfl rfl⟩
theorem mf_X5_outputCharacter : MFV yX5_outputCharacter cX5_outputCharacter 2 ((Option.some Jvm.ClassFile.FieldType.char)) 1 := ⟨⟨gw_t7 19 rfl rfl, gw_t1 6 rfl rfl, ⟨by decide, by decide⟩, by decide⟩, gw_t7 17 rfl rfl, gw_t7 18 rfl rfl⟩
theorem mf_X5_isConsistent : MFV yX5_isConsistent cX5_isConsistent 3 ((Option.some Jvm.ClassFile.FieldType.boolean)) 0 := ⟨⟨gw_t7 23 rfl rfl, gw_t1 6 rfl rfl, ⟨by decide, by decide⟩, by decide⟩, gw_t7 21 rfl rfl, gw_t7 22 rfl rfl⟩
theorem mf_X5_feed : MFV yX5_feed cX5_feed 2 ((Option.some Jvm.ClassFile.FieldType.int)) 1 := ⟨⟨gw_t7 27 rfl rfl, gw_t1 6 rfl rfl, ⟨by decide, by decide⟩, by decide⟩, gw_t7 25 rfl rfl, gw_t7 26 rfl rfl⟩
theorem mf_X5_here : MFV yX5_here cX5_here 1 ((Option.some Jvm.ClassFile.FieldType.int)) 0 := ⟨⟨gw_t7 47 rfl rfl, gw_t1 6 rfl rfl, ⟨by decide, by decide⟩, by decide⟩, gw_t7 46 rfl rfl, gw_p (q := (yX5_here, 21)) 59 (by decide +kernel)⟩
theorem mf_X5_skips : MFV yX5_skips cX5_skips 2 ((Option.some Jvm.ClassFile.FieldType.boolean)) 1 := ⟨⟨gw_t7 43 rfl rfl, gw_t1 6 rfl rfl, ⟨by decide, by decide⟩, by decide⟩, gw_t7 42 rfl rfl, gw_p (q := (yX5_skips, 21)) 58 (by decide +kernel)⟩
theorem mf_X5_isWord : MFV yX5_isWord cX5_isWord 4 ((Option.some Jvm.ClassFile.FieldType.boolean)) 2 := ⟨⟨gw_t7 56 rfl rfl, gw_t1 6 rfl rfl, ⟨by decide, by decide⟩, by decide⟩, gw_t7 55 rfl rfl, gw_p (q := (yX5_isWord, 21)) 61 (by decide +kernel)⟩
theorem mf_X5_figures : MFV yX5_figures cX5_figures 5 ((Option.some Jvm.ClassFile.FieldType.boolean)) 3 := ⟨⟨gw_t7 62 rfl rfl, gw_t1 6 rfl rfl, ⟨by decide, by decide⟩, by decide⟩, gw_t7 61 rfl rfl, gw_p (q := (yX5_figures, 21)) 62 (by decide +kernel)⟩
theorem mf_X5_withG : MFV yX5_withG cX5_withG 2 ((Option.some Jvm.ClassFile.FieldType.boolean)) 1 := ⟨⟨gw_t7 51 rfl rfl, gw_t1 6 rfl rfl, ⟨by decide, by decide⟩, by decide⟩, gw_t7 50 rfl rfl, gw_p (q := (yX5_withG, 21)) 60 (by decide +kernel)⟩
theorem mf_X5_withF : MFV yX5_withF cX5_withF 2 ((Option.some Jvm.ClassFile.FieldType.boolean)) 1 := ⟨⟨gw_t7 67 rfl rfl, gw_t1 6 rfl rfl, ⟨by decide, by decide⟩, by decide⟩, gw_t7 66 rfl rfl, gw_p (q := (yX5_withF, 21)) 63 (by decide +kernel)⟩
theorem mf_X5_commandHere : MFV yX5_commandHere cX5_commandHere 2 ((Option.some Jvm.ClassFile.FieldType.boolean)) 0 := ⟨⟨gw_t7 39 rfl rfl, gw_t1 6 rfl rfl, ⟨by decide, by decide⟩, by decide⟩, gw_t7 38 rfl rfl, gw_p (q := (yX5_commandHere, 21)) 57 (by decide +kernel)⟩
theorem mf_X5_isText : MFV yX5_isText cX5_isText 1 ((Option.some Jvm.ClassFile.FieldType.boolean)) 0 := ⟨⟨gw_t7 35 rfl rfl, gw_t1 6 rfl rfl, ⟨by decide, by decide⟩, by decide⟩, gw_t7 34 rfl rfl, gw_p (q := (yX5_isText, 21)) 56 (by decide +kernel)⟩
theorem mf_X5_carries : MFV yX5_carries cX5_carries 5 ((Option.some Jvm.ClassFile.FieldType.int)) 1 := ⟨⟨gw_t7 77 rfl rfl, gw_t1 6 rfl rfl, ⟨by decide, by decide⟩, by decide⟩, gw_t7 76 rfl rfl, gw_p (q := (yX5_carries, 21)) 64 (by decide +kernel)⟩
theorem mf_X5_execute : MFV yX5_execute cX5_execute 4 ((Option.some Jvm.ClassFile.FieldType.int)) 0 := ⟨⟨gw_t7 31 rfl rfl, gw_t1 6 rfl rfl, ⟨by decide, by decide⟩, by decide⟩, gw_t7 29 rfl rfl, gw_t7 30 rfl rfl⟩
theorem mf_X5_errorPosition : MFV yX5_errorPosition cX5_errorPosition 1 ((Option.some Jvm.ClassFile.FieldType.int)) 0 := ⟨⟨gw_t7 89 rfl rfl, gw_t1 6 rfl rfl, ⟨by decide, by decide⟩, by decide⟩, gw_t7 87 rfl rfl, gw_t7 88 rfl rfl⟩
theorem mf_X5_failedCommand : MFV yX5_failedCommand cX5_failedCommand 1 ((Option.some Jvm.ClassFile.FieldType.int)) 0 := ⟨⟨gw_t7 93 rfl rfl, gw_t1 6 rfl rfl, ⟨by decide, by decide⟩, by decide⟩, gw_t7 91 rfl rfl, gw_t7 92 rfl rfl⟩
theorem mf_X5_undo : MFV yX5_undo cX5_undo 1 ((Option.some Jvm.ClassFile.FieldType.int)) 0 := ⟨⟨gw_t7 97 rfl rfl, gw_t1 6 rfl rfl, ⟨by decide, by decide⟩, by decide⟩, gw_t7 95 rfl rfl, gw_t7 96 rfl rfl⟩
theorem mf_X5_undoCount : MFV yX5_undoCount cX5_undoCount 1 ((Option.some Jvm.ClassFile.FieldType.int)) 0 := ⟨⟨gw_t7 101 rfl rfl, gw_t1 6 rfl rfl, ⟨by decide, by decide⟩, by decide⟩, gw_t7 99 rfl rfl, gw_t7 100 rfl rfl⟩
theorem mf_X5_save : MFV yX5_save cX5_save 1 ((Option.some Jvm.ClassFile.FieldType.int)) 0 := ⟨⟨gw_t7 105 rfl rfl, gw_t1 6 rfl rfl, ⟨by decide, by decide⟩, by decide⟩, gw_t7 103 rfl rfl, gw_t7 104 rfl rfl⟩
theorem mf_X5_restore : MFV yX5_restore cX5_restore 1 ((Option.some Jvm.ClassFile.FieldType.int)) 0 := ⟨⟨gw_t7 109 rfl rfl, gw_t1 6 rfl rfl, ⟨by decide, by decide⟩, by decide⟩, gw_t7 107 rfl rfl, gw_t7 108 rfl rfl⟩
theorem mf_J6_numberOfTrailingZeros_0f7a4 : MFS yJ6_numberOfTrailingZeros_0f7a4 cJ6_numberOfTrailingZeros_0f7a4 2 ((Option.some Jvm.ClassFile.FieldType.int)) 1 := ⟨⟨gw_t2 122 rfl rfl, gw_t1 19 rfl rfl, ⟨by decide, by decide⟩, by decide⟩, gw_t2 121 rfl rfl⟩
theorem mf_J6_bitCount_0f7a4 : MFS yJ6_bitCount_0f7a4 cJ6_bitCount_0f7a4 1 ((Option.some Jvm.ClassFile.FieldType.int)) 1 := ⟨⟨gw_t2 126 rfl rfl, gw_t1 19 rfl rfl, ⟨by decide, by decide⟩, by decide⟩, gw_t2 125 rfl rfl⟩
theorem mf_J0_length_8abf5 : MFV yJ0_length_8abf5 cJ0_length_8abf5 1 ((Option.some Jvm.ClassFile.FieldType.int)) 0 := ⟨⟨gw_t5 15 rfl rfl, gw_t1 18 rfl rfl, ⟨by decide, by decide⟩, by decide⟩, gw_t5 13 rfl rfl, gw_t5 14 rfl rfl⟩
theorem mf_J0_charAt_5068e : MFV yJ0_charAt_5068e cJ0_charAt_5068e 2 ((Option.some Jvm.ClassFile.FieldType.char)) 1 := ⟨⟨gw_t5 25 rfl rfl, gw_t1 18 rfl rfl, ⟨by decide, by decide⟩, by decide⟩, gw_t5 23 rfl rfl, gw_t5 24 rfl rfl⟩
theorem mf_J0_coder_7d493 : MFV yJ0_coder_7d493 cJ0_coder_7d493 1 ((Option.some Jvm.ClassFile.FieldType.byte)) 0 := ⟨⟨gw_t5 19 rfl rfl, gw_t1 18 rfl rfl, ⟨by decide, by decide⟩, by decide⟩, gw_t5 17 rfl rfl, gw_t5 18 rfl rfl⟩
theorem mf_J0_isLatin1_aae02 : MFV yJ0_isLatin1_aae02 cJ0_isLatin1_aae02 1 ((Option.some Jvm.ClassFile.FieldType.boolean)) 0 := ⟨⟨gw_t5 29 rfl rfl, gw_t1 18 rfl rfl, ⟨by decide, by decide⟩, by decide⟩, gw_t5 27 rfl rfl, gw_t5 28 rfl rfl⟩
theorem mf_J0_checkIndex_df160 : MFS yJ0_checkIndex_df160 cJ0_checkIndex_df160 2 ((Option.none : Option Jvm.ClassFile.FieldType)) 2 := ⟨⟨gw_t5 35 rfl rfl, gw_t1 18 rfl rfl, ⟨by decide, by decide⟩, by decide⟩, gw_t5 34 rfl rfl⟩
theorem mf_J1_charAt_3b067 : MFS yJ1_charAt_3b067 cJ1_charAt_3b067 2 ((Option.some Jvm.ClassFile.FieldType.char)) 2 := ⟨⟨gw_t5 32 rfl rfl, gw_t1 21 rfl rfl, ⟨by decide, by decide⟩, by decide⟩, gw_t5 31 rfl rfl⟩
theorem mf_J3_checkIndex_8e157 : MFS yJ3_checkIndex_8e157 cJ3_checkIndex_8e157 3 ((Option.some Jvm.ClassFile.FieldType.int)) 3 := ⟨⟨gw_t5 40 rfl rfl, gw_t1 22 rfl rfl, ⟨by decide, by decide⟩, by decide⟩, gw_t5 39 rfl rfl⟩
