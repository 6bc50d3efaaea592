def wplc_0 (a1 a2 a3 a4 : Int32) (σ : Mem) (B : Mem → Prop) : Prop :=
  wp_L_addGate a1 σ (fun r1 σ2 => wp_X5_addGate a1 σ2 (fun r4 σ3 => wp_X5_thrown σ3 (fun r6 σ5 => ((r6 = r1 → ((¬ r1 = (0 : Int32) → B σ5) ∧ (r1 = (0 : Int32) → (((lg_cmp (σ5 34 0).toInt64 r4.toInt64) = (0 : Int32) → B σ5) ∧ (¬ (lg_cmp (σ5 34 0).toInt64 r4.toInt64) = (0 : Int32) → False))))) ∧ (¬ r6 = r1 → False)))))
def wplc_1 (a1 a2 a3 a4 : Int32) (σ : Mem) (B : Mem → Prop) : Prop :=
  wp_L_addGuard a1 σ (fun r1 σ2 => wp_X5_addGuard a1 σ2 (fun r4 σ3 => wp_X5_thrown σ3 (fun r6 σ5 => ((r6 = r1 → ((¬ r1 = (0 : Int32) → B σ5) ∧ (r1 = (0 : Int32) → (((lg_cmp (σ5 34 0).toInt64 r4.toInt64) = (0 : Int32) → B σ5) ∧ (¬ (lg_cmp (σ5 34 0).toInt64 r4.toInt64) = (0 : Int32) → False))))) ∧ (¬ r6 = r1 → False)))))
def wplc_2 (a1 a2 a3 a4 : Int32) (σ : Mem) (B : Mem → Prop) : Prop :=
  wp_X4_gateCount σ (fun r2 σ1 => wp_X5_gateCount σ1 (fun r4 σ3 => ((r2 = r4 → B σ3) ∧ (¬ r2 = r4 → False))))
def wplc_3 (a1 a2 a3 a4 : Int32) (σ : Mem) (B : Mem → Prop) : Prop :=
  wp_X4_guardCount σ (fun r2 σ1 => wp_X5_guardCount σ1 (fun r4 σ3 => ((r2 = r4 → B σ3) ∧ (¬ r2 = r4 → False))))
def wplc_4 (a1 a2 a3 a4 : Int32) (σ : Mem) (B : Mem → Prop) : Prop :=
  wp_L_neededRank a1 σ (fun r1 σ2 => wp_X5_neededRank a1 σ2 (fun r4 σ3 => wp_X5_thrown σ3 (fun r6 σ5 => ((r6 = r1 → ((¬ r1 = (0 : Int32) → B σ5) ∧ (r1 = (0 : Int32) → (((lg_cmp (σ5 34 0).toInt64 r4.toInt64) = (0 : Int32) → B σ5) ∧ (¬ (lg_cmp (σ5 34 0).toInt64 r4.toInt64) = (0 : Int32) → False))))) ∧ (¬ r6 = r1 → False)))))
def wplc_5 (a1 a2 a3 a4 : Int32) (σ : Mem) (B : Mem → Prop) : Prop :=
  wp_L_rank a1 σ (fun r1 σ2 => wp_X5_rank a1 σ2 (fun r4 σ3 => wp_X5_thrown σ3 (fun r6 σ5 => ((r6 = r1 → ((¬ r1 = (0 : Int32) → B σ5) ∧ (r1 = (0 : Int32) → (((lg_cmp (σ5 34 0).toInt64 r4.toInt64) = (0 : Int32) → B σ5) ∧ (¬ (lg_cmp (σ5 34 0).toInt64 r4.toInt64) = (0 : Int32) → False))))) ∧ (¬ r6 = r1 → False)))))
def wplc_6 (a1 a2 a3 a4 : Int32) (σ : Mem) (B : Mem → Prop) : Prop :=
  wp_L_faints a1 σ (fun r1 σ2 => wp_X5_faints a1 σ2 (fun r4 σ3 => wp_X5_thrown σ3 (fun r6 σ5 => ((r6 = r1 → ((¬ r1 = (0 : Int32) → B σ5) ∧ (r1 = (0 : Int32) → (((lg_cmp (σ5 34 0).toInt64 r4.toInt64) = (0 : Int32) → B σ5) ∧ (¬ (lg_cmp (σ5 34 0).toInt64 r4.toInt64) = (0 : Int32) → False))))) ∧ (¬ r6 = r1 → False)))))
def wplc_7 (a1 a2 a3 a4 : Int32) (σ : Mem) (B : Mem → Prop) : Prop :=
  wp_L_assign a1 a2 a3 σ (fun r1 σ2 => wp_X5_assign a1 a2 a3 σ2 (fun r4 σ3 => wp_X5_thrown σ3 (fun r6 σ5 => ((r6 = r1 → ((¬ r1 = (0 : Int32) → B σ5) ∧ (r1 = (0 : Int32) → (((lg_cmp (σ5 34 0).toInt64 r4.toInt64) = (0 : Int32) → B σ5) ∧ (¬ (lg_cmp (σ5 34 0).toInt64 r4.toInt64) = (0 : Int32) → False))))) ∧ (¬ r6 = r1 → False)))))
def wplc_8 (a1 a2 a3 a4 : Int32) (σ : Mem) (B : Mem → Prop) : Prop :=
  wp_L_canAssign a1 a2 a3 σ (fun r1 σ2 => wp_X5_canAssign a1 a2 a3 σ2 (fun r4 σ3 => wp_X5_thrown σ3 (fun r6 σ5 => ((r6 = r1 → ((¬ r1 = (0 : Int32) → B σ5) ∧ (r1 = (0 : Int32) → ((r4 = (0 : Int32) → (((lg_cmp (σ5 34 0).toInt64 (0 : Int32).toInt64) = (0 : Int32) → B σ5) ∧ (¬ (lg_cmp (σ5 34 0).toInt64 (0 : Int32).toInt64) = (0 : Int32) → False))) ∧ (¬ r4 = (0 : Int32) → (((lg_cmp (σ5 34 0).toInt64 (1 : Int32).toInt64) = (0 : Int32) → B σ5) ∧ (¬ (lg_cmp (σ5 34 0).toInt64 (1 : Int32).toInt64) = (0 : Int32) → False))))))) ∧ (¬ r6 = r1 → False)))))
def wplc_9 (a1 a2 a3 a4 : Int32) (σ : Mem) (B : Mem → Prop) : Prop :=
  wp_L_remove a1 a2 σ (fun r1 σ2 => wp_X5_remove a1 a2 σ2 (fun r4 σ3 => wp_X5_thrown σ3 (fun r6 σ5 => ((r6 = r1 → ((¬ r1 = (0 : Int32) → B σ5) ∧ (r1 = (0 : Int32) → (((lg_cmp (σ5 34 0).toInt64 r4.toInt64) = (0 : Int32) → B σ5) ∧ (¬ (lg_cmp (σ5 34 0).toInt64 r4.toInt64) = (0 : Int32) → False))))) ∧ (¬ r6 = r1 → False)))))
def wplc_10 (a1 a2 a3 a4 : Int32) (σ : Mem) (B : Mem → Prop) : Prop :=
  wp_L_exchange a1 a2 a3 a4 σ (fun r1 σ2 => wp_X5_exchange a1 a2 a3 a4 σ2 (fun r4 σ3 => wp_X5_thrown σ3 (fun r6 σ5 => ((r6 = r1 → ((¬ r1 = (0 : Int32) → B σ5) ∧ (r1 = (0 : Int32) → (((lg_cmp (σ5 34 0).toInt64 r4.toInt64) = (0 : Int32) → B σ5) ∧ (¬ (lg_cmp (σ5 34 0).toInt64 r4.toInt64) = (0 : Int32) → False))))) ∧ (¬ r6 = r1 → False)))))
def wplc_11 (a1 a2 a3 a4 : Int32) (σ : Mem) (B : Mem → Prop) : Prop :=
  wp_L_fillSlot a1 σ (fun r1 σ2 => wp_X5_fillSlot a1 σ2 (fun r4 σ3 => wp_X5_thrown σ3 (fun r6 σ5 => ((r6 = r1 → ((¬ r1 = (0 : Int32) → B σ5) ∧ (r1 = (0 : Int32) → (((lg_cmp (σ5 34 0).toInt64 r4.toInt64) = (0 : Int32) → B σ5) ∧ (¬ (lg_cmp (σ5 34 0).toInt64 r4.toInt64) = (0 : Int32) → False))))) ∧ (¬ r6 = r1 → False)))))
def wplc_12 (a1 a2 a3 a4 : Int32) (σ : Mem) (B : Mem → Prop) : Prop :=
  wp_L_guardAt a1 a2 σ (fun r1 σ2 => wp_X5_guardAt a1 a2 σ2 (fun r4 σ3 => wp_X5_thrown σ3 (fun r6 σ5 => ((r6 = r1 → ((¬ r1 = (0 : Int32) → B σ5) ∧ (r1 = (0 : Int32) → (((lg_cmp (σ5 34 0).toInt64 r4.toInt64) = (0 : Int32) → B σ5) ∧ (¬ (lg_cmp (σ5 34 0).toInt64 r4.toInt64) = (0 : Int32) → False))))) ∧ (¬ r6 = r1 → False)))))
def wplc_13 (a1 a2 a3 a4 : Int32) (σ : Mem) (B : Mem → Prop) : Prop :=
  wp_L_gateOf a1 a2 σ (fun r1 σ2 => wp_X5_gateOf a1 a2 σ2 (fun r4 σ3 => wp_X5_thrown σ3 (fun r6 σ5 => ((r6 = r1 → ((¬ r1 = (0 : Int32) → B σ5) ∧ (r1 = (0 : Int32) → (((lg_cmp (σ5 34 0).toInt64 r4.toInt64) = (0 : Int32) → B σ5) ∧ (¬ (lg_cmp (σ5 34 0).toInt64 r4.toInt64) = (0 : Int32) → False))))) ∧ (¬ r6 = r1 → False)))))
def wplc_14 (a1 a2 a3 a4 : Int32) (σ : Mem) (B : Mem → Prop) : Prop :=
  wp_L_dutiesOf a1 σ (fun r1 σ2 => wp_X5_dutiesOf a1 σ2 (fun r4 σ3 => wp_X5_thrown σ3 (fun r6 σ5 => ((r6 = r1 → ((¬ r1 = (0 : Int32) → B σ5) ∧ (r1 = (0 : Int32) → (((lg_cmp (σ5 34 0).toInt64 r4.toInt64) = (0 : Int32) → B σ5) ∧ (¬ (lg_cmp (σ5 34 0).toInt64 r4.toInt64) = (0 : Int32) → False))))) ∧ (¬ r6 = r1 → False)))))
def wplc_15 (a1 a2 a3 a4 : Int32) (σ : Mem) (B : Mem → Prop) : Prop :=
  wp_X4_dutyCount σ (fun r2 σ1 => wp_X5_dutyCount σ1 (fun r4 σ3 => ((r2 = r4 → B σ3) ∧ (¬ r2 = r4 → False))))
def wplc_16 (a1 a2 a3 a4 : Int32) (σ : Mem) (B : Mem → Prop) : Prop :=
  wp_L_openGates a1 σ (fun r1 σ2 => wp_X5_openGates a1 σ2 (fun r4 σ3 => wp_X5_thrown σ3 (fun r6 σ5 => ((r6 = r1 → ((¬ r1 = (0 : Int32) → B σ5) ∧ (r1 = (0 : Int32) → (((lg_cmp (σ5 34 0).toInt64 r4.toInt64) = (0 : Int32) → B σ5) ∧ (¬ (lg_cmp (σ5 34 0).toInt64 r4.toInt64) = (0 : Int32) → False))))) ∧ (¬ r6 = r1 → False)))))
def wplc_17 (a1 a2 a3 a4 : Int32) (σ : Mem) (B : Mem → Prop) : Prop :=
  wp_X4_openPlaces σ (fun r2 σ1 => wp_X5_openPlaces σ1 (fun r4 σ3 => ((r2 = r4 → B σ3) ∧ (¬ r2 = r4 → False))))
def wplc_18 (a1 a2 a3 a4 : Int32) (σ : Mem) (B : Mem → Prop) : Prop :=
  wp_X4_openPlacesBySlots σ (fun r2 σ1 => wp_X5_openPlacesBySlots σ1 (fun r4 σ3 => ((r2 = r4 → B σ3) ∧ (¬ r2 = r4 → False))))
def wplc_19 (a1 a2 a3 a4 : Int32) (σ : Mem) (B : Mem → Prop) : Prop :=
  wp_L_mostDuties a1 σ (fun r1 σ2 => wp_X5_mostDuties a1 σ2 (fun r4 σ3 => wp_X5_thrown σ3 (fun r6 σ5 => ((r6 = r1 → ((¬ r1 = (0 : Int32) → B σ5) ∧ (r1 = (0 : Int32) → (((lg_cmp (σ5 34 0).toInt64 r4.toInt64) = (0 : Int32) → B σ5) ∧ (¬ (lg_cmp (σ5 34 0).toInt64 r4.toInt64) = (0 : Int32) → False))))) ∧ (¬ r6 = r1 → False)))))
def wplc_20 (a1 a2 a3 a4 : Int32) (σ : Mem) (B : Mem → Prop) : Prop :=
  wp_L_mostDutiesBySets a1 σ (fun r1 σ2 => wp_X5_mostDutiesBySets a1 σ2 (fun r4 σ3 => wp_X5_thrown σ3 (fun r6 σ5 => ((r6 = r1 → ((¬ r1 = (0 : Int32) → B σ5) ∧ (r1 = (0 : Int32) → (((lg_cmp (σ5 34 0).toInt64 r4.toInt64) = (0 : Int32) → B σ5) ∧ (¬ (lg_cmp (σ5 34 0).toInt64 r4.toInt64) = (0 : Int32) → False))))) ∧ (¬ r6 = r1 → False)))))
def wplc_21 (a1 a2 a3 a4 : Int32) (σ : Mem) (B : Mem → Prop) : Prop :=
  wp_L_nextDuty a1 σ (fun r1 σ2 => wp_X5_nextDuty a1 σ2 (fun r4 σ3 => wp_X5_thrown σ3 (fun r6 σ5 => ((r6 = r1 → ((¬ r1 = (0 : Int32) → B σ5) ∧ (r1 = (0 : Int32) → (((lg_cmp (σ5 34 0).toInt64 r4.toInt64) = (0 : Int32) → B σ5) ∧ (¬ (lg_cmp (σ5 34 0).toInt64 r4.toInt64) = (0 : Int32) → False))))) ∧ (¬ r6 = r1 → False)))))
def wplc_22 (a1 a2 a3 a4 : Int32) (σ : Mem) (B : Mem → Prop) : Prop :=
  wp_L_longestRest a1 σ (fun r1 σ2 => wp_X5_longestRest a1 σ2 (fun r4 σ3 => wp_X5_thrown σ3 (fun r6 σ5 => ((r6 = r1 → ((¬ r1 = (0 : Int32) → B σ5) ∧ (r1 = (0 : Int32) → (((lg_cmp (σ5 34 0).toInt64 r4.toInt64) = (0 : Int32) → B σ5) ∧ (¬ (lg_cmp (σ5 34 0).toInt64 r4.toInt64) = (0 : Int32) → False))))) ∧ (¬ r6 = r1 → False)))))
def wplc_23 (a1 a2 a3 a4 : Int32) (σ : Mem) (B : Mem → Prop) : Prop :=
  wp_L_guardByDuties a1 σ (fun r1 σ2 => wp_X5_guardByDuties a1 σ2 (fun r4 σ3 => wp_X5_thrown σ3 (fun r6 σ5 => ((r6 = r1 → ((¬ r1 = (0 : Int32) → B σ5) ∧ (r1 = (0 : Int32) → (((lg_cmp (σ5 34 0).toInt64 r4.toInt64) = (0 : Int32) → B σ5) ∧ (¬ (lg_cmp (σ5 34 0).toInt64 r4.toInt64) = (0 : Int32) → False))))) ∧ (¬ r6 = r1 → False)))))
def wplc_24 (a1 a2 a3 a4 : Int32) (σ : Mem) (B : Mem → Prop) : Prop :=
  wp_L_grantLeave a1 a2 a3 σ (fun r1 σ2 => wp_X5_grantLeave a1 a2 a3 σ2 (fun r4 σ3 => wp_X5_thrown σ3 (fun r6 σ5 => ((r6 = r1 → ((¬ r1 = (0 : Int32) → B σ5) ∧ (r1 = (0 : Int32) → (((lg_cmp (σ5 34 0).toInt64 r4.toInt64) = (0 : Int32) → B σ5) ∧ (¬ (lg_cmp (σ5 34 0).toInt64 r4.toInt64) = (0 : Int32) → False))))) ∧ (¬ r6 = r1 → False)))))
def wplc_25 (a1 a2 a3 a4 : Int32) (σ : Mem) (B : Mem → Prop) : Prop :=
  wp_L_endLeave a1 a2 σ (fun r1 σ2 => wp_X5_endLeave a1 a2 σ2 (fun r4 σ3 => wp_X5_thrown σ3 (fun r6 σ5 => ((r6 = r1 → ((¬ r1 = (0 : Int32) → B σ5) ∧ (r1 = (0 : Int32) → (((lg_cmp (σ5 34 0).toInt64 r4.toInt64) = (0 : Int32) → B σ5) ∧ (¬ (lg_cmp (σ5 34 0).toInt64 r4.toInt64) = (0 : Int32) → False))))) ∧ (¬ r6 = r1 → False)))))
def wplc_26 (a1 a2 a3 a4 : Int32) (σ : Mem) (B : Mem → Prop) : Prop :=
  wp_L_isOnLeave a1 a2 σ (fun r1 σ2 => wp_X5_isOnLeave a1 a2 σ2 (fun r4 σ3 => wp_X5_thrown σ3 (fun r6 σ5 => ((r6 = r1 → ((¬ r1 = (0 : Int32) → B σ5) ∧ (r1 = (0 : Int32) → ((r4 = (0 : Int32) → (((lg_cmp (σ5 34 0).toInt64 (0 : Int32).toInt64) = (0 : Int32) → B σ5) ∧ (¬ (lg_cmp (σ5 34 0).toInt64 (0 : Int32).toInt64) = (0 : Int32) → False))) ∧ (¬ r4 = (0 : Int32) → (((lg_cmp (σ5 34 0).toInt64 (1 : Int32).toInt64) = (0 : Int32) → B σ5) ∧ (¬ (lg_cmp (σ5 34 0).toInt64 (1 : Int32).toInt64) = (0 : Int32) → False))))))) ∧ (¬ r6 = r1 → False)))))
def wplc_27 (a1 a2 a3 a4 : Int32) (σ : Mem) (B : Mem → Prop) : Prop :=
  wp_L_leaveSlots a1 σ (fun r1 σ2 => wp_X5_leaveSlots a1 σ2 (fun r4 σ3 => wp_X5_thrown σ3 (fun r6 σ5 => ((r6 = r1 → ((¬ r1 = (0 : Int32) → B σ5) ∧ (r1 = (0 : Int32) → (((lg_cmp (σ5 34 0).toInt64 r4.toInt64) = (0 : Int32) → B σ5) ∧ (¬ (lg_cmp (σ5 34 0).toInt64 r4.toInt64) = (0 : Int32) → False))))) ∧ (¬ r6 = r1 → False)))))
def wplc_28 (a1 a2 a3 a4 : Int32) (σ : Mem) (B : Mem → Prop) : Prop :=
  wp_L_addRations a1 σ (fun r1 σ2 => wp_X5_addRations a1 σ2 (fun r4 σ3 => wp_X5_thrown σ3 (fun r6 σ5 => ((r6 = r1 → ((¬ r1 = (0 : Int32) → B σ5) ∧ (r1 = (0 : Int32) → (((lg_cmp (σ5 34 0).toInt64 r4.toInt64) = (0 : Int32) → B σ5) ∧ (¬ (lg_cmp (σ5 34 0).toInt64 r4.toInt64) = (0 : Int32) → False))))) ∧ (¬ r6 = r1 → False)))))
def wplc_29 (a1 a2 a3 a4 : Int32) (σ : Mem) (B : Mem → Prop) : Prop :=
  wp_L_passSlots a1 σ (fun r1 σ2 => wp_X5_passSlots a1 σ2 (fun r4 σ3 => wp_X5_thrown σ3 (fun r6 σ5 => ((r6 = r1 → ((¬ r1 = (0 : Int32) → B σ5) ∧ (r1 = (0 : Int32) → (((lg_cmp (σ5 34 0).toInt64 r4.toInt64) = (0 : Int32) → B σ5) ∧ (¬ (lg_cmp (σ5 34 0).toInt64 r4.toInt64) = (0 : Int32) → False))))) ∧ (¬ r6 = r1 → False)))))
def wplc_30 (a1 a2 a3 a4 : Int32) (σ : Mem) (B : Mem → Prop) : Prop :=
  wp_X4_rations σ (fun r2 σ1 => wp_X5_rations σ1 (fun r4 σ3 => ((r2 = r4 → B σ3) ∧ (¬ r2 = r4 → False))))
def wplc_31 (a1 a2 a3 a4 : Int32) (σ : Mem) (B : Mem → Prop) : Prop :=
  wp_X4_currentSlot σ (fun r2 σ1 => wp_X5_currentSlot σ1 (fun r4 σ3 => ((r2 = r4 → B σ3) ∧ (¬ r2 = r4 → False))))
def wplc_32 (a1 a2 a3 a4 : Int32) (σ : Mem) (B : Mem → Prop) : Prop :=
  wp_X4_missingRations σ (fun r2 σ1 => wp_X5_missingRations σ1 (fun r4 σ3 => ((r2 = r4 → B σ3) ∧ (¬ r2 = r4 → False))))
def wplc_33 (a1 a2 a3 a4 : Int32) (σ : Mem) (B : Mem → Prop) : Prop :=
  wp_L_refusalReason σ (fun r1 σ2 => wp_X5_refusalReason σ2 (fun r4 σ3 => wp_X5_thrown σ3 (fun r6 σ5 => ((r6 = r1 → ((¬ r1 = (0 : Int32) → B σ5) ∧ (r1 = (0 : Int32) → (((lg_cmp (σ5 34 0).toInt64 r4.toInt64) = (0 : Int32) → B σ5) ∧ (¬ (lg_cmp (σ5 34 0).toInt64 r4.toInt64) = (0 : Int32) → False))))) ∧ (¬ r6 = r1 → False)))))
def wplc_34 (a1 a2 a3 a4 : Int32) (σ : Mem) (B : Mem → Prop) : Prop :=
  wp_L_refusalDetail σ (fun r1 σ2 => wp_X5_refusalDetail σ2 (fun r4 σ3 => wp_X5_thrown σ3 (fun r6 σ5 => ((r6 = r1 → ((¬ r1 = (0 : Int32) → B σ5) ∧ (r1 = (0 : Int32) → (((lg_cmp (σ5 34 0).toInt64 r4.toInt64) = (0 : Int32) → B σ5) ∧ (¬ (lg_cmp (σ5 34 0).toInt64 r4.toInt64) = (0 : Int32) → False))))) ∧ (¬ r6 = r1 → False)))))
def wplc_35 (a1 a2 a3 a4 : Int32) (σ : Mem) (B : Mem → Prop) : Prop :=
  wp_L_meanDuties σ (fun r1 σ2 => wp_X5_meanDuties σ2 (fun r4 σ3 => wp_X5_thrown σ3 (fun r6 σ5 => ((r6 = r1 → ((¬ r1 = (0 : Int32) → B σ5) ∧ (r1 = (0 : Int32) → (((Op.cmpValue (FP.dcmp (dval (σ5 35 0) (σ5 35 1) (σ5 35 2)) r4) .l) = (0 : Int32) → B σ5) ∧ (¬ (Op.cmpValue (FP.dcmp (dval (σ5 35 0) (σ5 35 1) (σ5 35 2)) r4) .l) = (0 : Int32) → (((Op.cmpValue (FP.dcmp (dval (σ5 35 0) (σ5 35 1) (σ5 35 2)) (dval (σ5 35 0) (σ5 35 1) (σ5 35 2))) .l) = (0 : Int32) → False) ∧ (¬ (Op.cmpValue (FP.dcmp (dval (σ5 35 0) (σ5 35 1) (σ5 35 2)) (dval (σ5 35 0) (σ5 35 1) (σ5 35 2))) .l) = (0 : Int32) → ((¬ (Op.cmpValue (FP.dcmp r4 r4) .l) = (0 : Int32) → B σ5) ∧ ((Op.cmpValue (FP.dcmp r4 r4) .l) = (0 : Int32) → False))))))))) ∧ (¬ r6 = r1 → False)))))
def wplc_36 (a1 a2 a3 a4 : Int32) (σ : Mem) (B : Mem → Prop) : Prop :=
  wp_L_coveredFraction σ (fun r1 σ2 => wp_X5_coveredFraction σ2 (fun r4 σ3 => wp_X5_thrown σ3 (fun r6 σ5 => ((r6 = r1 → ((¬ r1 = (0 : Int32) → B σ5) ∧ (r1 = (0 : Int32) → (vf_n64 (FP.f2d r4) ∧ (((Op.cmpValue (FP.dcmp (dval (σ5 35 0) (σ5 35 1) (σ5 35 2)) (FP.f2d r4)) .l) = (0 : Int32) → B σ5) ∧ (¬ (Op.cmpValue (FP.dcmp (dval (σ5 35 0) (σ5 35 1) (σ5 35 2)) (FP.f2d r4)) .l) = (0 : Int32) → (((Op.cmpValue (FP.dcmp (dval (σ5 35 0) (σ5 35 1) (σ5 35 2)) (dval (σ5 35 0) (σ5 35 1) (σ5 35 2))) .l) = (0 : Int32) → False) ∧ (¬ (Op.cmpValue (FP.dcmp (dval (σ5 35 0) (σ5 35 1) (σ5 35 2)) (dval (σ5 35 0) (σ5 35 1) (σ5 35 2))) .l) = (0 : Int32) → ((¬ (Op.cmpValue (FP.fcmp r4 r4) .l) = (0 : Int32) → B σ5) ∧ ((Op.cmpValue (FP.fcmp r4 r4) .l) = (0 : Int32) → False)))))))))) ∧ (¬ r6 = r1 → False)))))
def wplc_37 (a1 a2 a3 a4 : Int32) (σ : Mem) (B : Mem → Prop) : Prop :=
  wp_L_writeSlot a1 σ (fun r1 σ2 => wp_X5_writeSlot a1 σ2 (fun r4 σ3 => wp_X5_thrown σ3 (fun r6 σ5 => ((r6 = r1 → ((¬ r1 = (0 : Int32) → B σ5) ∧ (r1 = (0 : Int32) → (((lg_cmp (σ5 34 0).toInt64 r4.toInt64) = (0 : Int32) → B σ5) ∧ (¬ (lg_cmp (σ5 34 0).toInt64 r4.toInt64) = (0 : Int32) → False))))) ∧ (¬ r6 = r1 → False)))))
def wplc_38 (a1 a2 a3 a4 : Int32) (σ : Mem) (B : Mem → Prop) : Prop :=
  wp_L_writeGuard a1 σ (fun r1 σ2 => wp_X5_writeGuard a1 σ2 (fun r4 σ3 => wp_X5_thrown σ3 (fun r6 σ5 => ((r6 = r1 → ((¬ r1 = (0 : Int32) → B σ5) ∧ (r1 = (0 : Int32) → (((lg_cmp (σ5 34 0).toInt64 r4.toInt64) = (0 : Int32) → B σ5) ∧ (¬ (lg_cmp (σ5 34 0).toInt64 r4.toInt64) = (0 : Int32) → False))))) ∧ (¬ r6 = r1 → False)))))
def wplc_39 (a1 a2 a3 a4 : Int32) (σ : Mem) (B : Mem → Prop) : Prop :=
  wp_L_outputCharacter a1 σ (fun r1 σ2 => wp_X5_outputCharacter a1 σ2 (fun r4 σ3 => wp_X5_thrown σ3 (fun r6 σ5 => ((r6 = r1 → ((¬ r1 = (0 : Int32) → B σ5) ∧ (r1 = (0 : Int32) → (((lg_cmp (σ5 34 0).toInt64 r4.toInt64) = (0 : Int32) → B σ5) ∧ (¬ (lg_cmp (σ5 34 0).toInt64 r4.toInt64) = (0 : Int32) → False))))) ∧ (¬ r6 = r1 → False)))))
def wplc_40 (a1 a2 a3 a4 : Int32) (σ : Mem) (B : Mem → Prop) : Prop :=
  wp_X4_isConsistent σ (fun r2 σ1 => wp_X5_isConsistent σ1 (fun r4 σ3 => ((r2 = r4 → B σ3) ∧ (¬ r2 = r4 → False))))
def wplc_41 (a1 a2 a3 a4 : Int32) (σ : Mem) (B : Mem → Prop) : Prop :=
  wp_L_feed ((a1.toUInt32 % 65536).toInt32) σ (fun r1 σ2 => wp_X5_feed ((a1.toUInt32 % 65536).toInt32) σ2 (fun r4 σ3 => wp_X5_thrown σ3 (fun r6 σ5 => ((r6 = r1 → ((¬ r1 = (0 : Int32) → B σ5) ∧ (r1 = (0 : Int32) → (((lg_cmp (σ5 34 0).toInt64 r4.toInt64) = (0 : Int32) → B σ5) ∧ (¬ (lg_cmp (σ5 34 0).toInt64 r4.toInt64) = (0 : Int32) → False))))) ∧ (¬ r6 = r1 → False)))))
def wplc_42 (a1 a2 a3 a4 : Int32) (σ : Mem) (B : Mem → Prop) : Prop :=
  wp_L_execute σ (fun r1 σ2 => wp_X5_execute σ2 (fun r4 σ3 => wp_X5_thrown σ3 (fun r6 σ5 => ((r6 = r1 → ((¬ r1 = (0 : Int32) → B σ5) ∧ (r1 = (0 : Int32) → (((lg_cmp (σ5 34 0).toInt64 r4.toInt64) = (0 : Int32) → B σ5) ∧ (¬ (lg_cmp (σ5 34 0).toInt64 r4.toInt64) = (0 : Int32) → False))))) ∧ (¬ r6 = r1 → False)))))
def wplc_43 (a1 a2 a3 a4 : Int32) (σ : Mem) (B : Mem → Prop) : Prop :=
  wp_L_errorPosition σ (fun r1 σ2 => wp_X5_errorPosition σ2 (fun r4 σ3 => wp_X5_thrown σ3 (fun r6 σ5 => ((r6 = r1 → ((¬ r1 = (0 : Int32) → B σ5) ∧ (r1 = (0 : Int32) → (((lg_cmp (σ5 34 0).toInt64 r4.toInt64) = (0 : Int32) → B σ5) ∧ (¬ (lg_cmp (σ5 34 0).toInt64 r4.toInt64) = (0 : Int32) → False))))) ∧ (¬ r6 = r1 → False)))))
def wplc_44 (a1 a2 a3 a4 : Int32) (σ : Mem) (B : Mem → Prop) : Prop :=
  wp_L_failedCommand σ (fun r1 σ2 => wp_X5_failedCommand σ2 (fun r4 σ3 => wp_X5_thrown σ3 (fun r6 σ5 => ((r6 = r1 → ((¬ r1 = (0 : Int32) → B σ5) ∧ (r1 = (0 : Int32) → (((lg_cmp (σ5 34 0).toInt64 r4.toInt64) = (0 : Int32) → B σ5) ∧ (¬ (lg_cmp (σ5 34 0).toInt64 r4.toInt64) = (0 : Int32) → False))))) ∧ (¬ r6 = r1 → False)))))
def wplc_45 (a1 a2 a3 a4 : Int32) (σ : Mem) (B : Mem → Prop) : Prop :=
  wp_L_undo σ (fun r1 σ2 => wp_X5_undo σ2 (fun r4 σ3 => wp_X5_thrown σ3 (fun r6 σ5 => ((r6 = r1 → ((¬ r1 = (0 : Int32) → B σ5) ∧ (r1 = (0 : Int32) → (((lg_cmp (σ5 34 0).toInt64 r4.toInt64) = (0 : Int32) → B σ5) ∧ (¬ (lg_cmp (σ5 34 0).toInt64 r4.toInt64) = (0 : Int32) → False))))) ∧ (¬ r6 = r1 → False)))))
def wplc_46 (a1 a2 a3 a4 : Int32) (σ : Mem) (B : Mem → Prop) : Prop :=
  wp_X4_undoCount σ (fun r2 σ1 => wp_X5_undoCount σ1 (fun r4 σ3 => ((r2 = r4 → B σ3) ∧ (¬ r2 = r4 → False))))
def wplc_47 (a1 a2 a3 a4 : Int32) (σ : Mem) (B : Mem → Prop) : Prop :=
  wp_X4_save σ (fun r2 σ1 => wp_X5_save σ1 (fun r4 σ3 => ((r2 = r4 → B σ3) ∧ (¬ r2 = r4 → False))))
def wplc_48 (a1 a2 a3 a4 : Int32) (σ : Mem) (B : Mem → Prop) : Prop :=
  wp_L_restore σ (fun r1 σ2 => wp_X5_restore σ2 (fun r4 σ3 => wp_X5_thrown σ3 (fun r6 σ5 => ((r6 = r1 → ((¬ r1 = (0 : Int32) → B σ5) ∧ (r1 = (0 : Int32) → (((lg_cmp (σ5 34 0).toInt64 r4.toInt64) = (0 : Int32) → B σ5) ∧ (¬ (lg_cmp (σ5 34 0).toInt64 r4.toInt64) = (0 : Int32) → False))))) ∧ (¬ r6 = r1 → False)))))
set_option maxHeartbeats 4000000 in
set_option maxRecDepth 100000 in
theorem lc_0 {p : Program} {l : Launch} {e : Env} {s : State} {m : MethodId} {below : List Frame} {meth : Method} {c : Code} {A : Nat → Prop} {X : GX} {b L : Nat} {xs : Nat → Int32} {Q : State → Prop} (hC : LC l X p s m meth c A b L xs) {x5 a1 a2 a3 a4 : Int32} {σ : Mem} {H : Heap} {locs : List Loc} {ls : Array Slot} {cells slots : Nat} (hj : LJ x5 L xs a1 a2 a3 a4) (hz0 : cells ≤ room_1.cells ∧ slots ≤ room_1.slots) (hz1 : cells + 3 ≤ room_1.cells ∧ slots + 18 ≤ room_1.slots) (hS : WS X A s.heap σ H locs) (hl : lv_has ls 9 [(0, .ref b), (1, .ref (ga X 0)), (2, .ref (ga X 25)), (3, .ref (ga X 34)), (4, .ref (ga X 35)), (5, .int x5)]) {B : Mem → Prop} (h : wplc_0 a1 a2 a3 a4 σ B) (kE : LE p l e s m below meth c A X b x5 Q B cells slots) : W p l e room_1 s m #[Value.ref b] below meth c H locs cells slots Q (F0 m 256 ls []) := by
  obtain ⟨hx, hb, hml, hown, ht, hK, hZ, hA, hY, hX, hbl, hbA, hfl⟩ := hC
  obtain ⟨hj0, hj1, hj2, hj3, hj4, e1, e2, e3, e4⟩ := hj
  unfold wplc_0 at h
  refine lv_aload_n hx hb ddL_law_256 rfl (lv_at hl 1 rfl) ?_
  refine lv_aload_n hx hb ddL_law_257 rfl (lv_at hl 0 rfl) ?_
  refine lv_iload hx hb ddL_law_258 (lv_at hl 5 rfl) ?_
  refine lv_iconst (v := (1 : Int32)) hx hb ddL_law_260 (by decide) ?_
  refine lv_iadd hx hb ddL_law_261 ?_
  refine va_sld hx hb hX hbl hbA hS.2.2 hj1 ddL_law_262 ?_
  rw [e1]
  refine lv_aload_n hx hb ddL_law_263 rfl (lv_at hl 3 rfl) ?_
  refine kw_SI (As := [.ref (ga X 0), .int a1, .ref (ga X 34)]) (rest := []) (c_L_addGate l X hfl h) mfw_L_addGate lk395 hx hb hml hown ht hK hZ hS hA hY ⟨rfl, rfl⟩ ⟨Nat.le_of_ble_eq_true rfl, Nat.le_of_ble_eq_true rfl⟩ rfl hl.1 rfl (Nat.le_of_ble_eq_true rfl) (hz_le hz1 (by decide)) ddL_law_264 (fun r1 σ2 H locs hS h => ?_)
  refine lv_istore (lv' := [(6, .int r1), (0, .ref b), (1, .ref (ga X 0)), (2, .ref (ga X 25)), (3, .ref (ga X 34)), (4, .ref (ga X 35)), (5, .int x5)]) hx hb ddL_law_267 hl (by decide) rfl (fun ls hl => ?_)
  refine lv_aload_n hx hb ddL_law_269 rfl (lv_at hl 3 rfl) ?_
  refine lv_aload_n hx hb ddL_law_270 rfl (lv_at hl 1 rfl) ?_
  refine lv_iload hx hb ddL_law_271 (lv_at hl 6 rfl) ?_
  refine lv_iconst (v := (1 : Int32)) hx hb ddL_law_273 (by decide) ?_
  refine lv_iadd hx hb ddL_law_274 ?_
  refine va_sld hx hb hX hbl hbA hS.2.2 hj1 ddL_law_275 ?_
  rw [e1]
  refine k_VI (As := [.int a1]) (rest := []) (c_X5_addGate l X h) mf_X5_addGate lk1192 hx hb hml hown ht hK hZ hS hA 25 5 rfl rfl rfl ⟨rfl, rfl⟩ ⟨Nat.le_of_ble_eq_true rfl, Nat.le_of_ble_eq_true rfl⟩ rfl hl.1 rfl (Nat.le_of_ble_eq_true rfl) (hz_le hz1 (by decide)) ddL_law_276 (fun r4 σ3 H locs hS h => ?_)
  refine lv_istore (lv' := [(7, .int r4), (6, .int r1), (0, .ref b), (1, .ref (ga X 0)), (2, .ref (ga X 25)), (3, .ref (ga X 34)), (4, .ref (ga X 35)), (5, .int x5)]) hx hb ddL_law_279 hl (by decide) rfl (fun ls hl => ?_)
  refine lv_aload_n hx hb ddL_law_281 rfl (lv_at hl 4 rfl) ?_
  refine k_VI (As := []) (rest := []) (c_X5_thrown l X h) mf_X5_thrown lk1188 hx hb hml hown ht hK hZ hS hA 25 5 rfl rfl rfl ⟨rfl, rfl⟩ ⟨Nat.le_of_ble_eq_true rfl, Nat.le_of_ble_eq_true rfl⟩ rfl hl.1 rfl (Nat.le_of_ble_eq_true rfl) (hz_le hz1 (by decide)) ddL_law_282 (fun r6 σ5 H locs hS h => ?_)
  refine lv_iload hx hb ddL_law_285 (lv_at hl 1 rfl) ?_
  refine lv_icmp_eq (tgt := 292) hx hb ddL_law_287 (by decide) (fun c7 => ?_) (fun c7 => ?_)
  · replace h := h.1 c7
    refine lv_iload hx hb ddL_law_292 (lv_at hl 1 rfl) ?_
    refine lv_if_ne (tgt := 309) hx hb ddL_law_294 (by decide) (fun c8 => ?_) (fun c8 => ?_)
    · replace h := h.1 c8
      refine lv_goto (tgt := 2646) hx hb ddL_law_309 (by decide) ?_
      exact kE _ _ _ _ _ _ ⟨by omega, by omega⟩ hS (lv_sub hl [2, 3, 4, 5, 6, 7] rfl) h
    · replace h := h.2 c8
      refine lv_aload_n hx hb ddL_law_297 rfl (lv_at hl 5 rfl) ?_
      refine lv_iconst (v := (0 : Int32)) hx hb ddL_law_298 (by decide) ?_
      refine lald_34 hx hb hK hS ddL_law_299 ?_
      refine lv_iload hx hb ddL_law_300 (lv_at hl 0 rfl) ?_
      refine lv_i2l hx hb ddL_law_302 rfl ?_
      refine W.lcmp hx hb ddL_law_303 ?_
      refine lv_if_eq (tgt := 309) hx hb ddL_law_304 (by decide) (fun c9 => ?_) (fun c9 => ?_)
      · replace h := h.1 c9
        refine lv_goto (tgt := 2646) hx hb ddL_law_309 (by decide) ?_
        exact kE _ _ _ _ _ _ ⟨by omega, by omega⟩ hS (lv_sub hl [2, 3, 4, 5, 6, 7] rfl) h
      · replace h := h.2 c9
        refine lv_iconst (v := (0 : Int32)) hx hb ddL_law_307 (by decide) ?_
        exact h.elim
  · replace h := h.2 c7
    refine lv_iconst (v := (0 : Int32)) hx hb ddL_law_290 (by decide) ?_
    exact h.elim
set_option maxHeartbeats 4000000 in
set_option maxRecDepth 100000 in
theorem lc_1 {p : Program} {l : Launch} {e : Env} {s : State} {m : MethodId} {below : List Frame} {meth : Method} {c : Code} {A : Nat → Prop} {X : GX} {b L : Nat} {xs : Nat → Int32} {Q : State → Prop} (hC : LC l X p s m meth c A b L xs) {x5 a1 a2 a3 a4 : Int32} {σ : Mem} {H : Heap} {locs : List Loc} {ls : Array Slot} {cells slots : Nat} (hj : LJ x5 L xs a1 a2 a3 a4) (hz0 : cells ≤ room_1.cells ∧ slots ≤ room_1.slots) (hz1 : cells + 3 ≤ room_1.cells ∧ slots + 18 ≤ room_1.slots) (hS : WS X A s.heap σ H locs) (hl : lv_has ls 9 [(0, .ref b), (1, .ref (ga X 0)), (2, .ref (ga X 25)), (3, .ref (ga X 34)), (4, .ref (ga X 35)), (5, .int x5)]) {B : Mem → Prop} (h : wplc_1 a1 a2 a3 a4 σ B) (kE : LE p l e s m below meth c A X b x5 Q B cells slots) : W p l e room_1 s m #[Value.ref b] below meth c H locs cells slots Q (F0 m 312 ls []) := by
  obtain ⟨hx, hb, hml, hown, ht, hK, hZ, hA, hY, hX, hbl, hbA, hfl⟩ := hC
  obtain ⟨hj0, hj1, hj2, hj3, hj4, e1, e2, e3, e4⟩ := hj
  unfold wplc_1 at h
  refine lv_aload_n hx hb ddL_law_312 rfl (lv_at hl 1 rfl) ?_
  refine lv_aload_n hx hb ddL_law_313 rfl (lv_at hl 0 rfl) ?_
  refine lv_iload hx hb ddL_law_314 (lv_at hl 5 rfl) ?_
  refine lv_iconst (v := (1 : Int32)) hx hb ddL_law_316 (by decide) ?_
  refine lv_iadd hx hb ddL_law_317 ?_
  refine va_sld hx hb hX hbl hbA hS.2.2 hj1 ddL_law_318 ?_
  rw [e1]
  refine lv_aload_n hx hb ddL_law_319 rfl (lv_at hl 3 rfl) ?_
  refine kw_SI (As := [.ref (ga X 0), .int a1, .ref (ga X 34)]) (rest := []) (c_L_addGuard l X hfl h) mfw_L_addGuard lk499 hx hb hml hown ht hK hZ hS hA hY ⟨rfl, rfl⟩ ⟨Nat.le_of_ble_eq_true rfl, Nat.le_of_ble_eq_true rfl⟩ rfl hl.1 rfl (Nat.le_of_ble_eq_true rfl) (hz_le hz1 (by decide)) ddL_law_320 (fun r1 σ2 H locs hS h => ?_)
  refine lv_istore (lv' := [(6, .int r1), (0, .ref b), (1, .ref (ga X 0)), (2, .ref (ga X 25)), (3, .ref (ga X 34)), (4, .ref (ga X 35)), (5, .int x5)]) hx hb ddL_law_323 hl (by decide) rfl (fun ls hl => ?_)
  refine lv_aload_n hx hb ddL_law_325 rfl (lv_at hl 3 rfl) ?_
  refine lv_aload_n hx hb ddL_law_326 rfl (lv_at hl 1 rfl) ?_
  refine lv_iload hx hb ddL_law_327 (lv_at hl 6 rfl) ?_
  refine lv_iconst (v := (1 : Int32)) hx hb ddL_law_329 (by decide) ?_
  refine lv_iadd hx hb ddL_law_330 ?_
  refine va_sld hx hb hX hbl hbA hS.2.2 hj1 ddL_law_331 ?_
  rw [e1]
  refine k_VI (As := [.int a1]) (rest := []) (c_X5_addGuard l X h) mf_X5_addGuard lk1210 hx hb hml hown ht hK hZ hS hA 25 5 rfl rfl rfl ⟨rfl, rfl⟩ ⟨Nat.le_of_ble_eq_true rfl, Nat.le_of_ble_eq_true rfl⟩ rfl hl.1 rfl (Nat.le_of_ble_eq_true rfl) (hz_le hz1 (by decide)) ddL_law_332 (fun r4 σ3 H locs hS h => ?_)
  refine lv_istore (lv' := [(7, .int r4), (6, .int r1), (0, .ref b), (1, .ref (ga X 0)), (2, .ref (ga X 25)), (3, .ref (ga X 34)), (4, .ref (ga X 35)), (5, .int x5)]) hx hb ddL_law_335 hl (by decide) rfl (fun ls hl => ?_)
  refine lv_aload_n hx hb ddL_law_337 rfl (lv_at hl 4 rfl) ?_
  refine k_VI (As := []) (rest := []) (c_X5_thrown l X h) mf_X5_thrown lk1188 hx hb hml hown ht hK hZ hS hA 25 5 rfl rfl rfl ⟨rfl, rfl⟩ ⟨Nat.le_of_ble_eq_true rfl, Nat.le_of_ble_eq_true rfl⟩ rfl hl.1 rfl (Nat.le_of_ble_eq_true rfl) (hz_le hz1 (by decide)) ddL_law_338 (fun r6 σ5 H locs hS h => ?_)
  refine lv_iload hx hb ddL_law_341 (lv_at hl 1 rfl) ?_
  refine lv_icmp_eq (tgt := 348) hx hb ddL_law_343 (by decide) (fun c7 => ?_) (fun c7 => ?_)
  · replace h := h.1 c7
    refine lv_iload hx hb ddL_law_348 (lv_at hl 1 rfl) ?_
    refine lv_if_ne (tgt := 365) hx hb ddL_law_350 (by decide) (fun c8 => ?_) (fun c8 => ?_)
    · replace h := h.1 c8
      refine lv_goto (tgt := 2646) hx hb ddL_law_365 (by decide) ?_
      exact kE _ _ _ _ _ _ ⟨by omega, by omega⟩ hS (lv_sub hl [2, 3, 4, 5, 6, 7] rfl) h
    · replace h := h.2 c8
      refine lv_aload_n hx hb ddL_law_353 rfl (lv_at hl 5 rfl) ?_
      refine lv_iconst (v := (0 : Int32)) hx hb ddL_law_354 (by decide) ?_
      refine lald_34 hx hb hK hS ddL_law_355 ?_
      refine lv_iload hx hb ddL_law_356 (lv_at hl 0 rfl) ?_
      refine lv_i2l hx hb ddL_law_358 rfl ?_
      refine W.lcmp hx hb ddL_law_359 ?_
      refine lv_if_eq (tgt := 365) hx hb ddL_law_360 (by decide) (fun c9 => ?_) (fun c9 => ?_)
      · replace h := h.1 c9
        refine lv_goto (tgt := 2646) hx hb ddL_law_365 (by decide) ?_
        exact kE _ _ _ _ _ _ ⟨by omega, by omega⟩ hS (lv_sub hl [2, 3, 4, 5, 6, 7] rfl) h
      · replace h := h.2 c9
        refine lv_iconst (v := (0 : Int32)) hx hb ddL_law_363 (by decide) ?_
        exact h.elim
  · replace h := h.2 c7
    refine lv_iconst (v := (0 : Int32)) hx hb ddL_law_346 (by decide) ?_
    exact h.elim
set_option maxHeartbeats 4000000 in
set_option maxRecDepth 100000 in
theorem lc_2 {p : Program} {l : Launch} {e : Env} {s : State} {m : MethodId} {below : List Frame} {meth : Method} {c : Code} {A : Nat → Prop} {X : GX} {b L : Nat} {xs : Nat → Int32} {Q : State → Prop} (hC : LC l X p s m meth c A b L xs) {x5 a1 a2 a3 a4 : Int32} {σ : Mem} {H : Heap} {locs : List Loc} {ls : Array Slot} {cells slots : Nat} (hj : LJ x5 L xs a1 a2 a3 a4) (hz0 : cells ≤ room_1.cells ∧ slots ≤ room_1.slots) (hz1 : cells + 3 ≤ room_1.cells ∧ slots + 18 ≤ room_1.slots) (hS : WS X A s.heap σ H locs) (hl : lv_has ls 9 [(0, .ref b), (1, .ref (ga X 0)), (2, .ref (ga X 25)), (3, .ref (ga X 34)), (4, .ref (ga X 35)), (5, .int x5)]) {B : Mem → Prop} (h : wplc_2 a1 a2 a3 a4 σ B) (kE : LE p l e s m below meth c A X b x5 Q B cells slots) : W p l e room_1 s m #[Value.ref b] below meth c H locs cells slots Q (F0 m 368 ls []) := by
  obtain ⟨hx, hb, hml, hown, ht, hK, hZ, hA, hY, hX, hbl, hbA, hfl⟩ := hC
  obtain ⟨hj0, hj1, hj2, hj3, hj4, e1, e2, e3, e4⟩ := hj
  unfold wplc_2 at h
  refine lv_aload_n hx hb ddL_law_368 rfl (lv_at hl 1 rfl) ?_
  refine k_VI (As := []) (rest := []) (c_X4_gateCount l X h) mf_X4_gateCount lk146 hx hb hml hown ht hK hZ hS hA 0 0 rfl rfl rfl ⟨rfl, rfl⟩ ⟨Nat.le_of_ble_eq_true rfl, Nat.le_of_ble_eq_true rfl⟩ rfl hl.1 rfl (Nat.le_of_ble_eq_true rfl) hz0 ddL_law_369 (fun r2 σ1 H locs hS h => ?_)
  refine lv_aload_n hx hb ddL_law_372 rfl (lv_at hl 2 rfl) ?_
  refine k_VI (As := []) (rest := [.int r2]) (c_X5_gateCount l X h) mf_X5_gateCount lk1214 hx hb hml hown ht hK hZ hS hA 25 5 rfl rfl rfl ⟨rfl, rfl⟩ ⟨Nat.le_of_ble_eq_true rfl, Nat.le_of_ble_eq_true rfl⟩ rfl hl.1 rfl (Nat.le_of_ble_eq_true rfl) hz0 ddL_law_373 (fun r4 σ3 H locs hS h => ?_)
  refine lv_icmp_eq (tgt := 2646) hx hb ddL_law_376 (by decide) (fun c5 => ?_) (fun c5 => ?_)
  · replace h := h.1 c5
    exact kE _ _ _ _ _ _ ⟨by omega, by omega⟩ hS (lv_sub hl [0, 1, 2, 3, 4, 5] rfl) h
  · replace h := h.2 c5
    refine lv_iconst (v := (0 : Int32)) hx hb ddL_law_379 (by decide) ?_
    exact h.elim
set_option maxHeartbeats 4000000 in
set_option maxRecDepth 100000 in
theorem lc_3 {p : Program} {l : Launch} {e : Env} {s : State} {m : MethodId} {below : List Frame} {meth : Method} {c : Code} {A : Nat → Prop} {X : GX} {b L : Nat} {xs : Nat → Int32} {Q : State → Prop} (hC : LC l X p s m meth c A b L xs) {x5 a1 a2 a3 a4 : Int32} {σ : Mem} {H : Heap} {locs : List Loc} {ls : Array Slot} {cells slots : Nat} (hj : LJ x5 L xs a1 a2 a3 a4) (hz0 : cells ≤ room_1.cells ∧ slots ≤ room_1.slots) (hz1 : cells + 3 ≤ room_1.cells ∧ slots + 18 ≤ room_1.slots) (hS : WS X A s.heap σ H locs) (hl : lv_has ls 9 [(0, .ref b), (1, .ref (ga X 0)), (2, .ref (ga X 25)), (3, .ref (ga X 34)), (4, .ref (ga X 35)), (5, .int x5)]) {B : Mem → Prop} (h : wplc_3 a1 a2 a3 a4 σ B) (kE : LE p l e s m below meth c A X b x5 Q B cells slots) : W p l e room_1 s m #[Value.ref b] below meth c H locs cells slots Q (F0 m 381 ls []) := by
  obtain ⟨hx, hb, hml, hown, ht, hK, hZ, hA, hY, hX, hbl, hbA, hfl⟩ := hC
  obtain ⟨hj0, hj1, hj2, hj3, hj4, e1, e2, e3, e4⟩ := hj
  unfold wplc_3 at h
  refine lv_aload_n hx hb ddL_law_381 rfl (lv_at hl 1 rfl) ?_
  refine k_VI (As := []) (rest := []) (c_X4_guardCount l X h) mf_X4_guardCount lk154 hx hb hml hown ht hK hZ hS hA 0 0 rfl rfl rfl ⟨rfl, rfl⟩ ⟨Nat.le_of_ble_eq_true rfl, Nat.le_of_ble_eq_true rfl⟩ rfl hl.1 rfl (Nat.le_of_ble_eq_true rfl) hz0 ddL_law_382 (fun r2 σ1 H locs hS h => ?_)
  refine lv_aload_n hx hb ddL_law_385 rfl (lv_at hl 2 rfl) ?_
  refine k_VI (As := []) (rest := [.int r2]) (c_X5_guardCount l X h) mf_X5_guardCount lk1218 hx hb hml hown ht hK hZ hS hA 25 5 rfl rfl rfl ⟨rfl, rfl⟩ ⟨Nat.le_of_ble_eq_true rfl, Nat.le_of_ble_eq_true rfl⟩ rfl hl.1 rfl (Nat.le_of_ble_eq_true rfl) hz0 ddL_law_386 (fun r4 σ3 H locs hS h => ?_)
  refine lv_icmp_eq (tgt := 2646) hx hb ddL_law_389 (by decide) (fun c5 => ?_) (fun c5 => ?_)
  · replace h := h.1 c5
    exact kE _ _ _ _ _ _ ⟨by omega, by omega⟩ hS (lv_sub hl [0, 1, 2, 3, 4, 5] rfl) h
  · replace h := h.2 c5
    refine lv_iconst (v := (0 : Int32)) hx hb ddL_law_392 (by decide) ?_
    exact h.elim
set_option maxHeartbeats 4000000 in
set_option maxRecDepth 100000 in
theorem lc_4 {p : Program} {l : Launch} {e : Env} {s : State} {m : MethodId} {below : List Frame} {meth : Method} {c : Code} {A : Nat → Prop} {X : GX} {b L : Nat} {xs : Nat → Int32} {Q : State → Prop} (hC : LC l X p s m meth c A b L xs) {x5 a1 a2 a3 a4 : Int32} {σ : Mem} {H : Heap} {locs : List Loc} {ls : Array Slot} {cells slots : Nat} (hj : LJ x5 L xs a1 a2 a3 a4) (hz0 : cells ≤ room_1.cells ∧ slots ≤ room_1.slots) (hz1 : cells + 3 ≤ room_1.cells ∧ slots + 18 ≤ room_1.slots) (hS : WS X A s.heap σ H locs) (hl : lv_has ls 9 [(0, .ref b), (1, .ref (ga X 0)), (2, .ref (ga X 25)), (3, .ref (ga X 34)), (4, .ref (ga X 35)), (5, .int x5)]) {B : Mem → Prop} (h : wplc_4 a1 a2 a3 a4 σ B) (kE : LE p l e s m below meth c A X b x5 Q B cells slots) : W p l e room_1 s m #[Value.ref b] below meth c H locs cells slots Q (F0 m 394 ls []) := by
  obtain ⟨hx, hb, hml, hown, ht, hK, hZ, hA, hY, hX, hbl, hbA, hfl⟩ := hC
  obtain ⟨hj0, hj1, hj2, hj3, hj4, e1, e2, e3, e4⟩ := hj
  unfold wplc_4 at h
  refine lv_aload_n hx hb ddL_law_394 rfl (lv_at hl 1 rfl) ?_
  refine lv_aload_n hx hb ddL_law_395 rfl (lv_at hl 0 rfl) ?_
  refine lv_iload hx hb ddL_law_396 (lv_at hl 5 rfl) ?_
  refine lv_iconst (v := (1 : Int32)) hx hb ddL_law_398 (by decide) ?_
  refine lv_iadd hx hb ddL_law_399 ?_
  refine va_sld hx hb hX hbl hbA hS.2.2 hj1 ddL_law_400 ?_
  rw [e1]
  refine lv_aload_n hx hb ddL_law_401 rfl (lv_at hl 3 rfl) ?_
  refine kw_SI (As := [.ref (ga X 0), .int a1, .ref (ga X 34)]) (rest := []) (c_L_neededRank l X hfl h) mfw_L_neededRank lk514 hx hb hml hown ht hK hZ hS hA hY ⟨rfl, rfl⟩ ⟨Nat.le_of_ble_eq_true rfl, Nat.le_of_ble_eq_true rfl⟩ rfl hl.1 rfl (Nat.le_of_ble_eq_true rfl) (hz_le hz1 (by decide)) ddL_law_402 (fun r1 σ2 H locs hS h => ?_)
  refine lv_istore (lv' := [(6, .int r1), (0, .ref b), (1, .ref (ga X 0)), (2, .ref (ga X 25)), (3, .ref (ga X 34)), (4, .ref (ga X 35)), (5, .int x5)]) hx hb ddL_law_405 hl (by decide) rfl (fun ls hl => ?_)
  refine lv_aload_n hx hb ddL_law_407 rfl (lv_at hl 3 rfl) ?_
  refine lv_aload_n hx hb ddL_law_408 rfl (lv_at hl 1 rfl) ?_
  refine lv_iload hx hb ddL_law_409 (lv_at hl 6 rfl) ?_
  refine lv_iconst (v := (1 : Int32)) hx hb ddL_law_411 (by decide) ?_
  refine lv_iadd hx hb ddL_law_412 ?_
  refine va_sld hx hb hX hbl hbA hS.2.2 hj1 ddL_law_413 ?_
  rw [e1]
  refine k_VI (As := [.int a1]) (rest := []) (c_X5_neededRank l X h) mf_X5_neededRank lk1222 hx hb hml hown ht hK hZ hS hA 25 5 rfl rfl rfl ⟨rfl, rfl⟩ ⟨Nat.le_of_ble_eq_true rfl, Nat.le_of_ble_eq_true rfl⟩ rfl hl.1 rfl (Nat.le_of_ble_eq_true rfl) (hz_le hz1 (by decide)) ddL_law_414 (fun r4 σ3 H locs hS h => ?_)
  refine lv_istore (lv' := [(7, .int r4), (6, .int r1), (0, .ref b), (1, .ref (ga X 0)), (2, .ref (ga X 25)), (3, .ref (ga X 34)), (4, .ref (ga X 35)), (5, .int x5)]) hx hb ddL_law_417 hl (by decide) rfl (fun ls hl => ?_)
  refine lv_aload_n hx hb ddL_law_419 rfl (lv_at hl 4 rfl) ?_
  refine k_VI (As := []) (rest := []) (c_X5_thrown l X h) mf_X5_thrown lk1188 hx hb hml hown ht hK hZ hS hA 25 5 rfl rfl rfl ⟨rfl, rfl⟩ ⟨Nat.le_of_ble_eq_true rfl, Nat.le_of_ble_eq_true rfl⟩ rfl hl.1 rfl (Nat.le_of_ble_eq_true rfl) (hz_le hz1 (by decide)) ddL_law_420 (fun r6 σ5 H locs hS h => ?_)
  refine lv_iload hx hb ddL_law_423 (lv_at hl 1 rfl) ?_
  refine lv_icmp_eq (tgt := 430) hx hb ddL_law_425 (by decide) (fun c7 => ?_) (fun c7 => ?_)
  · replace h := h.1 c7
    refine lv_iload hx hb ddL_law_430 (lv_at hl 1 rfl) ?_
    refine lv_if_ne (tgt := 447) hx hb ddL_law_432 (by decide) (fun c8 => ?_) (fun c8 => ?_)
    · replace h := h.1 c8
      refine lv_goto (tgt := 2646) hx hb ddL_law_447 (by decide) ?_
      exact kE _ _ _ _ _ _ ⟨by omega, by omega⟩ hS (lv_sub hl [2, 3, 4, 5, 6, 7] rfl) h
    · replace h := h.2 c8
      refine lv_aload_n hx hb ddL_law_435 rfl (lv_at hl 5 rfl) ?_
      refine lv_iconst (v := (0 : Int32)) hx hb ddL_law_436 (by decide) ?_
      refine lald_34 hx hb hK hS ddL_law_437 ?_
      refine lv_iload hx hb ddL_law_438 (lv_at hl 0 rfl) ?_
      refine lv_i2l hx hb ddL_law_440 rfl ?_
      refine W.lcmp hx hb ddL_law_441 ?_
      refine lv_if_eq (tgt := 447) hx hb ddL_law_442 (by decide) (fun c9 => ?_) (fun c9 => ?_)
      · replace h := h.1 c9
        refine lv_goto (tgt := 2646) hx hb ddL_law_447 (by decide) ?_
        exact kE _ _ _ _ _ _ ⟨by omega, by omega⟩ hS (lv_sub hl [2, 3, 4, 5, 6, 7] rfl) h
      · replace h := h.2 c9
        refine lv_iconst (v := (0 : Int32)) hx hb ddL_law_445 (by decide) ?_
        exact h.elim
  · replace h := h.2 c7
    refine lv_iconst (v := (0 : Int32)) hx hb ddL_law_428 (by decide) ?_
    exact h.elim
set_option maxHeartbeats 4000000 in
set_option maxRecDepth 100000 in
theorem lc_5 {p : Program} {l : Launch} {e : Env} {s : State} {m : MethodId} {below : List Frame} {meth : Method} {c : Code} {A : Nat → Prop} {X : GX} {b L : Nat} {xs : Nat → Int32} {Q : State → Prop} (hC : LC l X p s m meth c A b L xs) {x5 a1 a2 a3 a4 : Int32} {σ : Mem} {H : Heap} {locs : List Loc} {ls : Array Slot} {cells slots : Nat} (hj : LJ x5 L xs a1 a2 a3 a4) (hz0 : cells ≤ room_1.cells ∧ slots ≤ room_1.slots) (hz1 : cells + 3 ≤ room_1.cells ∧ slots + 18 ≤ room_1.slots) (hS : WS X A s.heap σ H locs) (hl : lv_has ls 9 [(0, .ref b), (1, .ref (ga X 0)), (2, .ref (ga X 25)), (3, .ref (ga X 34)), (4, .ref (ga X 35)), (5, .int x5)]) {B : Mem → Prop} (h : wplc_5 a1 a2 a3 a4 σ B) (kE : LE p l e s m below meth c A X b x5 Q B cells slots) : W p l e room_1 s m #[Value.ref b] below meth c H locs cells slots Q (F0 m 450 ls []) := by
  obtain ⟨hx, hb, hml, hown, ht, hK, hZ, hA, hY, hX, hbl, hbA, hfl⟩ := hC
  obtain ⟨hj0, hj1, hj2, hj3, hj4, e1, e2, e3, e4⟩ := hj
  unfold wplc_5 at h
  refine lv_aload_n hx hb ddL_law_450 rfl (lv_at hl 1 rfl) ?_
  refine lv_aload_n hx hb ddL_law_451 rfl (lv_at hl 0 rfl) ?_
  refine lv_iload hx hb ddL_law_452 (lv_at hl 5 rfl) ?_
  refine lv_iconst (v := (1 : Int32)) hx hb ddL_law_454 (by decide) ?_
  refine lv_iadd hx hb ddL_law_455 ?_
  refine va_sld hx hb hX hbl hbA hS.2.2 hj1 ddL_law_456 ?_
  rw [e1]
  refine lv_aload_n hx hb ddL_law_457 rfl (lv_at hl 3 rfl) ?_
  refine kw_SI (As := [.ref (ga X 0), .int a1, .ref (ga X 34)]) (rest := []) (c_L_rank l X hfl h) mfw_L_rank lk545 hx hb hml hown ht hK hZ hS hA hY ⟨rfl, rfl⟩ ⟨Nat.le_of_ble_eq_true rfl, Nat.le_of_ble_eq_true rfl⟩ rfl hl.1 rfl (Nat.le_of_ble_eq_true rfl) (hz_le hz1 (by decide)) ddL_law_458 (fun r1 σ2 H locs hS h => ?_)
  refine lv_istore (lv' := [(6, .int r1), (0, .ref b), (1, .ref (ga X 0)), (2, .ref (ga X 25)), (3, .ref (ga X 34)), (4, .ref (ga X 35)), (5, .int x5)]) hx hb ddL_law_461 hl (by decide) rfl (fun ls hl => ?_)
  refine lv_aload_n hx hb ddL_law_463 rfl (lv_at hl 3 rfl) ?_
  refine lv_aload_n hx hb ddL_law_464 rfl (lv_at hl 1 rfl) ?_
  refine lv_iload hx hb ddL_law_465 (lv_at hl 6 rfl) ?_
  refine lv_iconst (v := (1 : Int32)) hx hb ddL_law_467 (by decide) ?_
  refine lv_iadd hx hb ddL_law_468 ?_
  refine va_sld hx hb hX hbl hbA hS.2.2 hj1 ddL_law_469 ?_
  rw [e1]
  refine k_VI (As := [.int a1]) (rest := []) (c_X5_rank l X h) mf_X5_rank lk1230 hx hb hml hown ht hK hZ hS hA 25 5 rfl rfl rfl ⟨rfl, rfl⟩ ⟨Nat.le_of_ble_eq_true rfl, Nat.le_of_ble_eq_true rfl⟩ rfl hl.1 rfl (Nat.le_of_ble_eq_true rfl) (hz_le hz1 (by decide)) ddL_law_470 (fun r4 σ3 H locs hS h => ?_)
  refine lv_istore (lv' := [(7, .int r4), (6, .int r1), (0, .ref b), (1, .ref (ga X 0)), (2, .ref (ga X 25)), (3, .ref (ga X 34)), (4, .ref (ga X 35)), (5, .int x5)]) hx hb ddL_law_473 hl (by decide) rfl (fun ls hl => ?_)
  refine lv_aload_n hx hb ddL_law_475 rfl (lv_at hl 4 rfl) ?_
  refine k_VI (As := []) (rest := []) (c_X5_thrown l X h) mf_X5_thrown lk1188 hx hb hml hown ht hK hZ hS hA 25 5 rfl rfl rfl ⟨rfl, rfl⟩ ⟨Nat.le_of_ble_eq_true rfl, Nat.le_of_ble_eq_true rfl⟩ rfl hl.1 rfl (Nat.le_of_ble_eq_true rfl) (hz_le hz1 (by decide)) ddL_law_476 (fun r6 σ5 H locs hS h => ?_)
  refine lv_iload hx hb ddL_law_479 (lv_at hl 1 rfl) ?_
  refine lv_icmp_eq (tgt := 486) hx hb ddL_law_481 (by decide) (fun c7 => ?_) (fun c7 => ?_)
  · replace h := h.1 c7
    refine lv_iload hx hb ddL_law_486 (lv_at hl 1 rfl) ?_
    refine lv_if_ne (tgt := 503) hx hb ddL_law_488 (by decide) (fun c8 => ?_) (fun c8 => ?_)
    · replace h := h.1 c8
      refine lv_goto (tgt := 2646) hx hb ddL_law_503 (by decide) ?_
      exact kE _ _ _ _ _ _ ⟨by omega, by omega⟩ hS (lv_sub hl [2, 3, 4, 5, 6, 7] rfl) h
    · replace h := h.2 c8
      refine lv_aload_n hx hb ddL_law_491 rfl (lv_at hl 5 rfl) ?_
      refine lv_iconst (v := (0 : Int32)) hx hb ddL_law_492 (by decide) ?_
      refine lald_34 hx hb hK hS ddL_law_493 ?_
      refine lv_iload hx hb ddL_law_494 (lv_at hl 0 rfl) ?_
      refine lv_i2l hx hb ddL_law_496 rfl ?_
      refine W.lcmp hx hb ddL_law_497 ?_
      refine lv_if_eq (tgt := 503) hx hb ddL_law_498 (by decide) (fun c9 => ?_) (fun c9 => ?_)
      · replace h := h.1 c9
        refine lv_goto (tgt := 2646) hx hb ddL_law_503 (by decide) ?_
        exact kE _ _ _ _ _ _ ⟨by omega, by omega⟩ hS (lv_sub hl [2, 3, 4, 5, 6, 7] rfl) h
      · replace h := h.2 c9
        refine lv_iconst (v := (0 : Int32)) hx hb ddL_law_501 (by decide) ?_
        exact h.elim
  · replace h := h.2 c7
    refine lv_iconst (v := (0 : Int32)) hx hb ddL_law_484 (by decide) ?_
    exact h.elim
set_option maxHeartbeats 4000000 in
set_option maxRecDepth 100000 in
theorem lc_6 {p : Program} {l : Launch} {e : Env} {s : State} {m : MethodId} {below : List Frame} {meth : Method} {c : Code} {A : Nat → Prop} {X : GX} {b L : Nat} {xs : Nat → Int32} {Q : State → Prop} (hC : LC l X p s m meth c A b L xs) {x5 a1 a2 a3 a4 : Int32} {σ : Mem} {H : Heap} {locs : List Loc} {ls : Array Slot} {cells slots : Nat} (hj : LJ x5 L xs a1 a2 a3 a4) (hz0 : cells ≤ room_1.cells ∧ slots ≤ room_1.slots) (hz1 : cells + 3 ≤ room_1.cells ∧ slots + 18 ≤ room_1.slots) (hS : WS X A s.heap σ H locs) (hl : lv_has ls 9 [(0, .ref b), (1, .ref (ga X 0)), (2, .ref (ga X 25)), (3, .ref (ga X 34)), (4, .ref (ga X 35)), (5, .int x5)]) {B : Mem → Prop} (h : wplc_6 a1 a2 a3 a4 σ B) (kE : LE p l e s m below meth c A X b x5 Q B cells slots) : W p l e room_1 s m #[Value.ref b] below meth c H locs cells slots Q (F0 m 506 ls []) := by
  obtain ⟨hx, hb, hml, hown, ht, hK, hZ, hA, hY, hX, hbl, hbA, hfl⟩ := hC
  obtain ⟨hj0, hj1, hj2, hj3, hj4, e1, e2, e3, e4⟩ := hj
  unfold wplc_6 at h
  refine lv_aload_n hx hb ddL_law_506 rfl (lv_at hl 1 rfl) ?_
  refine lv_aload_n hx hb ddL_law_507 rfl (lv_at hl 0 rfl) ?_
  refine lv_iload hx hb ddL_law_508 (lv_at hl 5 rfl) ?_
  refine lv_iconst (v := (1 : Int32)) hx hb ddL_law_510 (by decide) ?_
  refine lv_iadd hx hb ddL_law_511 ?_
  refine va_sld hx hb hX hbl hbA hS.2.2 hj1 ddL_law_512 ?_
  rw [e1]
  refine lv_aload_n hx hb ddL_law_513 rfl (lv_at hl 3 rfl) ?_
  refine kw_SI (As := [.ref (ga X 0), .int a1, .ref (ga X 34)]) (rest := []) (c_L_faints l X hfl h) mfw_L_faints lk559 hx hb hml hown ht hK hZ hS hA hY ⟨rfl, rfl⟩ ⟨Nat.le_of_ble_eq_true rfl, Nat.le_of_ble_eq_true rfl⟩ rfl hl.1 rfl (Nat.le_of_ble_eq_true rfl) (hz_le hz1 (by decide)) ddL_law_514 (fun r1 σ2 H locs hS h => ?_)
  refine lv_istore (lv' := [(6, .int r1), (0, .ref b), (1, .ref (ga X 0)), (2, .ref (ga X 25)), (3, .ref (ga X 34)), (4, .ref (ga X 35)), (5, .int x5)]) hx hb ddL_law_517 hl (by decide) rfl (fun ls hl => ?_)
  refine lv_aload_n hx hb ddL_law_519 rfl (lv_at hl 3 rfl) ?_
  refine lv_aload_n hx hb ddL_law_520 rfl (lv_at hl 1 rfl) ?_
  refine lv_iload hx hb ddL_law_521 (lv_at hl 6 rfl) ?_
  refine lv_iconst (v := (1 : Int32)) hx hb ddL_law_523 (by decide) ?_
  refine lv_iadd hx hb ddL_law_524 ?_
  refine va_sld hx hb hX hbl hbA hS.2.2 hj1 ddL_law_525 ?_
  rw [e1]
  refine k_VI (As := [.int a1]) (rest := []) (c_X5_faints l X h) mf_X5_faints lk1246 hx hb hml hown ht hK hZ hS hA 25 5 rfl rfl rfl ⟨rfl, rfl⟩ ⟨Nat.le_of_ble_eq_true rfl, Nat.le_of_ble_eq_true rfl⟩ rfl hl.1 rfl (Nat.le_of_ble_eq_true rfl) (hz_le hz1 (by decide)) ddL_law_526 (fun r4 σ3 H locs hS h => ?_)
  refine lv_istore (lv' := [(7, .int r4), (6, .int r1), (0, .ref b), (1, .ref (ga X 0)), (2, .ref (ga X 25)), (3, .ref (ga X 34)), (4, .ref (ga X 35)), (5, .int x5)]) hx hb ddL_law_529 hl (by decide) rfl (fun ls hl => ?_)
  refine lv_aload_n hx hb ddL_law_531 rfl (lv_at hl 4 rfl) ?_
  refine k_VI (As := []) (rest := []) (c_X5_thrown l X h) mf_X5_thrown lk1188 hx hb hml hown ht hK hZ hS hA 25 5 rfl rfl rfl ⟨rfl, rfl⟩ ⟨Nat.le_of_ble_eq_true rfl, Nat.le_of_ble_eq_true rfl⟩ rfl hl.1 rfl (Nat.le_of_ble_eq_true rfl) (hz_le hz1 (by decide)) ddL_law_532 (fun r6 σ5 H locs hS h => ?_)
  refine lv_iload hx hb ddL_law_535 (lv_at hl 1 rfl) ?_
  refine lv_icmp_eq (tgt := 542) hx hb ddL_law_537 (by decide) (fun c7 => ?_) (fun c7 => ?_)
  · replace h := h.1 c7
    refine lv_iload hx hb ddL_law_542 (lv_at hl 1 rfl) ?_
    refine lv_if_ne (tgt := 559) hx hb ddL_law_544 (by decide) (fun c8 => ?_) (fun c8 => ?_)
    · replace h := h.1 c8
      refine lv_goto (tgt := 2646) hx hb ddL_law_559 (by decide) ?_
      exact kE _ _ _ _ _ _ ⟨by omega, by omega⟩ hS (lv_sub hl [2, 3, 4, 5, 6, 7] rfl) h
    · replace h := h.2 c8
      refine lv_aload_n hx hb ddL_law_547 rfl (lv_at hl 5 rfl) ?_
      refine lv_iconst (v := (0 : Int32)) hx hb ddL_law_548 (by decide) ?_
      refine lald_34 hx hb hK hS ddL_law_549 ?_
      refine lv_iload hx hb ddL_law_550 (lv_at hl 0 rfl) ?_
      refine lv_i2l hx hb ddL_law_552 rfl ?_
      refine W.lcmp hx hb ddL_law_553 ?_
      refine lv_if_eq (tgt := 559) hx hb ddL_law_554 (by decide) (fun c9 => ?_) (fun c9 => ?_)
      · replace h := h.1 c9
        refine lv_goto (tgt := 2646) hx hb ddL_law_559 (by decide) ?_
        exact kE _ _ _ _ _ _ ⟨by omega, by omega⟩ hS (lv_sub hl [2, 3, 4, 5, 6, 7] rfl) h
      · replace h := h.2 c9
        refine lv_iconst (v := (0 : Int32)) hx hb ddL_law_557 (by decide) ?_
        exact h.elim
  · replace h := h.2 c7
    refine lv_iconst (v := (0 : Int32)) hx hb ddL_law_540 (by decide) ?_
    exact h.elim
set_option maxHeartbeats 4000000 in
set_option maxRecDepth 100000 in
theorem lc_7 {p : Program} {l : Launch} {e : Env} {s : State} {m : MethodId} {below : List Frame} {meth : Method} {c : Code} {A : Nat → Prop} {X : GX} {b L : Nat} {xs : Nat → Int32} {Q : State → Prop} (hC : LC l X p s m meth c A b L xs) {x5 a1 a2 a3 a4 : Int32} {σ : Mem} {H : Heap} {locs : List Loc} {ls : Array Slot} {cells slots : Nat} (hj : LJ x5 L xs a1 a2 a3 a4) (hz0 : cells ≤ room_1.cells ∧ slots ≤ room_1.slots) (hz1 : cells + 3 ≤ room_1.cells ∧ slots + 18 ≤ room_1.slots) (hS : WS X A s.heap σ H locs) (hl : lv_has ls 9 [(0, .ref b), (1, .ref (ga X 0)), (2, .ref (ga X 25)), (3, .ref (ga X 34)), (4, .ref (ga X 35)), (5, .int x5)]) {B : Mem → Prop} (h : wplc_7 a1 a2 a3 a4 σ B) (kE : LE p l e s m below meth c A X b x5 Q B cells slots) : W p l e room_1 s m #[Value.ref b] below meth c H locs cells slots Q (F0 m 562 ls []) := by
  obtain ⟨hx, hb, hml, hown, ht, hK, hZ, hA, hY, hX, hbl, hbA, hfl⟩ := hC
  obtain ⟨hj0, hj1, hj2, hj3, hj4, e1, e2, e3, e4⟩ := hj
  unfold wplc_7 at h
  refine lv_aload_n hx hb ddL_law_562 rfl (lv_at hl 1 rfl) ?_
  refine lv_aload_n hx hb ddL_law_563 rfl (lv_at hl 0 rfl) ?_
  refine lv_iload hx hb ddL_law_564 (lv_at hl 5 rfl) ?_
  refine lv_iconst (v := (1 : Int32)) hx hb ddL_law_566 (by decide) ?_
  refine lv_iadd hx hb ddL_law_567 ?_
  refine va_sld hx hb hX hbl hbA hS.2.2 hj1 ddL_law_568 ?_
  rw [e1]
  refine lv_aload_n hx hb ddL_law_569 rfl (lv_at hl 0 rfl) ?_
  refine lv_iload hx hb ddL_law_570 (lv_at hl 5 rfl) ?_
  refine lv_iconst (v := (2 : Int32)) hx hb ddL_law_572 (by decide) ?_
  refine lv_iadd hx hb ddL_law_573 ?_
  refine va_sld hx hb hX hbl hbA hS.2.2 hj2 ddL_law_574 ?_
  rw [e2]
  refine lv_aload_n hx hb ddL_law_575 rfl (lv_at hl 0 rfl) ?_
  refine lv_iload hx hb ddL_law_576 (lv_at hl 5 rfl) ?_
  refine lv_iconst (v := (3 : Int32)) hx hb ddL_law_578 (by decide) ?_
  refine lv_iadd hx hb ddL_law_579 ?_
  refine va_sld hx hb hX hbl hbA hS.2.2 hj3 ddL_law_580 ?_
  rw [e3]
  refine lv_aload_n hx hb ddL_law_581 rfl (lv_at hl 3 rfl) ?_
  refine kw_SI (As := [.ref (ga X 0), .int a1, .int a2, .int a3, .ref (ga X 34)]) (rest := []) (c_L_assign l X hfl h) mfw_L_assign lk570 hx hb hml hown ht hK hZ hS hA hY ⟨rfl, rfl⟩ ⟨Nat.le_of_ble_eq_true rfl, Nat.le_of_ble_eq_true rfl⟩ rfl hl.1 rfl (Nat.le_of_ble_eq_true rfl) (hz_le hz1 (by decide)) ddL_law_582 (fun r1 σ2 H locs hS h => ?_)
  refine lv_istore (lv' := [(6, .int r1), (0, .ref b), (1, .ref (ga X 0)), (2, .ref (ga X 25)), (3, .ref (ga X 34)), (4, .ref (ga X 35)), (5, .int x5)]) hx hb ddL_law_585 hl (by decide) rfl (fun ls hl => ?_)
  refine lv_aload_n hx hb ddL_law_587 rfl (lv_at hl 3 rfl) ?_
  refine lv_aload_n hx hb ddL_law_588 rfl (lv_at hl 1 rfl) ?_
  refine lv_iload hx hb ddL_law_589 (lv_at hl 6 rfl) ?_
  refine lv_iconst (v := (1 : Int32)) hx hb ddL_law_591 (by decide) ?_
  refine lv_iadd hx hb ddL_law_592 ?_
  refine va_sld hx hb hX hbl hbA hS.2.2 hj1 ddL_law_593 ?_
  rw [e1]
  refine lv_aload_n hx hb ddL_law_594 rfl (lv_at hl 1 rfl) ?_
  refine lv_iload hx hb ddL_law_595 (lv_at hl 6 rfl) ?_
  refine lv_iconst (v := (2 : Int32)) hx hb ddL_law_597 (by decide) ?_
  refine lv_iadd hx hb ddL_law_598 ?_
  refine va_sld hx hb hX hbl hbA hS.2.2 hj2 ddL_law_599 ?_
  rw [e2]
  refine lv_aload_n hx hb ddL_law_600 rfl (lv_at hl 1 rfl) ?_
  refine lv_iload hx hb ddL_law_601 (lv_at hl 6 rfl) ?_
  refine lv_iconst (v := (3 : Int32)) hx hb ddL_law_603 (by decide) ?_
  refine lv_iadd hx hb ddL_law_604 ?_
  refine va_sld hx hb hX hbl hbA hS.2.2 hj3 ddL_law_605 ?_
  rw [e3]
  refine k_VI (As := [.int a1, .int a2, .int a3]) (rest := []) (c_X5_assign l X h) mf_X5_assign lk1250 hx hb hml hown ht hK hZ hS hA 25 5 rfl rfl rfl ⟨rfl, rfl⟩ ⟨Nat.le_of_ble_eq_true rfl, Nat.le_of_ble_eq_true rfl⟩ rfl hl.1 rfl (Nat.le_of_ble_eq_true rfl) (hz_le hz1 (by decide)) ddL_law_606 (fun r4 σ3 H locs hS h => ?_)
  refine lv_istore (lv' := [(7, .int r4), (6, .int r1), (0, .ref b), (1, .ref (ga X 0)), (2, .ref (ga X 25)), (3, .ref (ga X 34)), (4, .ref (ga X 35)), (5, .int x5)]) hx hb ddL_law_609 hl (by decide) rfl (fun ls hl => ?_)
  refine lv_aload_n hx hb ddL_law_611 rfl (lv_at hl 4 rfl) ?_
  refine k_VI (As := []) (rest := []) (c_X5_thrown l X h) mf_X5_thrown lk1188 hx hb hml hown ht hK hZ hS hA 25 5 rfl rfl rfl ⟨rfl, rfl⟩ ⟨Nat.le_of_ble_eq_true rfl, Nat.le_of_ble_eq_true rfl⟩ rfl hl.1 rfl (Nat.le_of_ble_eq_true rfl) (hz_le hz1 (by decide)) ddL_law_612 (fun r6 σ5 H locs hS h => ?_)
  refine lv_iload hx hb ddL_law_615 (lv_at hl 1 rfl) ?_
  refine lv_icmp_eq (tgt := 622) hx hb ddL_law_617 (by decide) (fun c7 => ?_) (fun c7 => ?_)
  · replace h := h.1 c7
    refine lv_iload hx hb ddL_law_622 (lv_at hl 1 rfl) ?_
    refine lv_if_ne (tgt := 639) hx hb ddL_law_624 (by decide) (fun c8 => ?_) (fun c8 => ?_)
    · replace h := h.1 c8
      refine lv_goto (tgt := 2646) hx hb ddL_law_639 (by decide) ?_
      exact kE _ _ _ _ _ _ ⟨by omega, by omega⟩ hS (lv_sub hl [2, 3, 4, 5, 6, 7] rfl) h
    · replace h := h.2 c8
      refine lv_aload_n hx hb ddL_law_627 rfl (lv_at hl 5 rfl) ?_
      refine lv_iconst (v := (0 : Int32)) hx hb ddL_law_628 (by decide) ?_
      refine lald_34 hx hb hK hS ddL_law_629 ?_
      refine lv_iload hx hb ddL_law_630 (lv_at hl 0 rfl) ?_
      refine lv_i2l hx hb ddL_law_632 rfl ?_
      refine W.lcmp hx hb ddL_law_633 ?_
      refine lv_if_eq (tgt := 639) hx hb ddL_law_634 (by decide) (fun c9 => ?_) (fun c9 => ?_)
      · replace h := h.1 c9
        refine lv_goto (tgt := 2646) hx hb ddL_law_639 (by decide) ?_
        exact kE _ _ _ _ _ _ ⟨by omega, by omega⟩ hS (lv_sub hl [2, 3, 4, 5, 6, 7] rfl) h
      · replace h := h.2 c9
        refine lv_iconst (v := (0 : Int32)) hx hb ddL_law_637 (by decide) ?_
        exact h.elim
  · replace h := h.2 c7
    refine lv_iconst (v := (0 : Int32)) hx hb ddL_law_620 (by decide) ?_
    exact h.elim
set_option maxHeartbeats 4000000 in
set_option maxRecDepth 100000 in
theorem lc_8 {p : Program} {l : Launch} {e : Env} {s : State} {m : MethodId} {below : List Frame} {meth : Method} {c : Code} {A : Nat → Prop} {X : GX} {b L : Nat} {xs : Nat → Int32} {Q : State → Prop} (hC : LC l X p s m meth c A b L xs) {x5 a1 a2 a3 a4 : Int32} {σ : Mem} {H : Heap} {locs : List Loc} {ls : Array Slot} {cells slots : Nat} (hj : LJ x5 L xs a1 a2 a3 a4) (hz0 : cells ≤ room_1.cells ∧ slots ≤ room_1.slots) (hz1 : cells + 3 ≤ room_1.cells ∧ slots + 18 ≤ room_1.slots) (hS : WS X A s.heap σ H locs) (hl : lv_has ls 9 [(0, .ref b), (1, .ref (ga X 0)), (2, .ref (ga X 25)), (3, .ref (ga X 34)), (4, .ref (ga X 35)), (5, .int x5)]) {B : Mem → Prop} (h : wplc_8 a1 a2 a3 a4 σ B) (kE : LE p l e s m below meth c A X b x5 Q B cells slots) : W p l e room_1 s m #[Value.ref b] below meth c H locs cells slots Q (F0 m 642 ls []) := by
  obtain ⟨hx, hb, hml, hown, ht, hK, hZ, hA, hY, hX, hbl, hbA, hfl⟩ := hC
  obtain ⟨hj0, hj1, hj2, hj3, hj4, e1, e2, e3, e4⟩ := hj
  unfold wplc_8 at h
  refine lv_aload_n hx hb ddL_law_642 rfl (lv_at hl 1 rfl) ?_
  refine lv_aload_n hx hb ddL_law_643 rfl (lv_at hl 0 rfl) ?_
  refine lv_iload hx hb ddL_law_644 (lv_at hl 5 rfl) ?_
  refine lv_iconst (v := (1 : Int32)) hx hb ddL_law_646 (by decide) ?_
  refine lv_iadd hx hb ddL_law_647 ?_
  refine va_sld hx hb hX hbl hbA hS.2.2 hj1 ddL_law_648 ?_
  rw [e1]
  refine lv_aload_n hx hb ddL_law_649 rfl (lv_at hl 0 rfl) ?_
  refine lv_iload hx hb ddL_law_650 (lv_at hl 5 rfl) ?_
  refine lv_iconst (v := (2 : Int32)) hx hb ddL_law_652 (by decide) ?_
  refine lv_iadd hx hb ddL_law_653 ?_
  refine va_sld hx hb hX hbl hbA hS.2.2 hj2 ddL_law_654 ?_
  rw [e2]
  refine lv_aload_n hx hb ddL_law_655 rfl (lv_at hl 0 rfl) ?_
  refine lv_iload hx hb ddL_law_656 (lv_at hl 5 rfl) ?_
  refine lv_iconst (v := (3 : Int32)) hx hb ddL_law_658 (by decide) ?_
  refine lv_iadd hx hb ddL_law_659 ?_
  refine va_sld hx hb hX hbl hbA hS.2.2 hj3 ddL_law_660 ?_
  rw [e3]
  refine lv_aload_n hx hb ddL_law_661 rfl (lv_at hl 3 rfl) ?_
  refine kw_SI (As := [.ref (ga X 0), .int a1, .int a2, .int a3, .ref (ga X 34)]) (rest := []) (c_L_canAssign l X hfl h) mfw_L_canAssign lk607 hx hb hml hown ht hK hZ hS hA hY ⟨rfl, rfl⟩ ⟨Nat.le_of_ble_eq_true rfl, Nat.le_of_ble_eq_true rfl⟩ rfl hl.1 rfl (Nat.le_of_ble_eq_true rfl) (hz_le hz1 (by decide)) ddL_law_662 (fun r1 σ2 H locs hS h => ?_)
  refine lv_istore (lv' := [(6, .int r1), (0, .ref b), (1, .ref (ga X 0)), (2, .ref (ga X 25)), (3, .ref (ga X 34)), (4, .ref (ga X 35)), (5, .int x5)]) hx hb ddL_law_665 hl (by decide) rfl (fun ls hl => ?_)
  refine lv_aload_n hx hb ddL_law_667 rfl (lv_at hl 3 rfl) ?_
  refine lv_aload_n hx hb ddL_law_668 rfl (lv_at hl 1 rfl) ?_
  refine lv_iload hx hb ddL_law_669 (lv_at hl 6 rfl) ?_
  refine lv_iconst (v := (1 : Int32)) hx hb ddL_law_671 (by decide) ?_
  refine lv_iadd hx hb ddL_law_672 ?_
  refine va_sld hx hb hX hbl hbA hS.2.2 hj1 ddL_law_673 ?_
  rw [e1]
  refine lv_aload_n hx hb ddL_law_674 rfl (lv_at hl 1 rfl) ?_
  refine lv_iload hx hb ddL_law_675 (lv_at hl 6 rfl) ?_
  refine lv_iconst (v := (2 : Int32)) hx hb ddL_law_677 (by decide) ?_
  refine lv_iadd hx hb ddL_law_678 ?_
  refine va_sld hx hb hX hbl hbA hS.2.2 hj2 ddL_law_679 ?_
  rw [e2]
  refine lv_aload_n hx hb ddL_law_680 rfl (lv_at hl 1 rfl) ?_
  refine lv_iload hx hb ddL_law_681 (lv_at hl 6 rfl) ?_
  refine lv_iconst (v := (3 : Int32)) hx hb ddL_law_683 (by decide) ?_
  refine lv_iadd hx hb ddL_law_684 ?_
  refine va_sld hx hb hX hbl hbA hS.2.2 hj3 ddL_law_685 ?_
  rw [e3]
  refine k_VI (As := [.int a1, .int a2, .int a3]) (rest := []) (c_X5_canAssign l X h) mf_X5_canAssign lk1289 hx hb hml hown ht hK hZ hS hA 25 5 rfl rfl rfl ⟨rfl, rfl⟩ ⟨Nat.le_of_ble_eq_true rfl, Nat.le_of_ble_eq_true rfl⟩ rfl hl.1 rfl (Nat.le_of_ble_eq_true rfl) (hz_le hz1 (by decide)) ddL_law_686 (fun r4 σ3 H locs hS h => ?_)
  refine lv_istore (lv' := [(7, .int r4), (6, .int r1), (0, .ref b), (1, .ref (ga X 0)), (2, .ref (ga X 25)), (3, .ref (ga X 34)), (4, .ref (ga X 35)), (5, .int x5)]) hx hb ddL_law_689 hl (by decide) rfl (fun ls hl => ?_)
  refine lv_aload_n hx hb ddL_law_691 rfl (lv_at hl 4 rfl) ?_
  refine k_VI (As := []) (rest := []) (c_X5_thrown l X h) mf_X5_thrown lk1188 hx hb hml hown ht hK hZ hS hA 25 5 rfl rfl rfl ⟨rfl, rfl⟩ ⟨Nat.le_of_ble_eq_true rfl, Nat.le_of_ble_eq_true rfl⟩ rfl hl.1 rfl (Nat.le_of_ble_eq_true rfl) (hz_le hz1 (by decide)) ddL_law_692 (fun r6 σ5 H locs hS h => ?_)
  refine lv_iload hx hb ddL_law_695 (lv_at hl 1 rfl) ?_
  refine lv_icmp_eq (tgt := 702) hx hb ddL_law_697 (by decide) (fun c7 => ?_) (fun c7 => ?_)
  · replace h := h.1 c7
    refine lv_iload hx hb ddL_law_702 (lv_at hl 1 rfl) ?_
    refine lv_if_ne (tgt := 726) hx hb ddL_law_704 (by decide) (fun c8 => ?_) (fun c8 => ?_)
    · replace h := h.1 c8
      refine lv_goto (tgt := 2646) hx hb ddL_law_726 (by decide) ?_
      exact kE _ _ _ _ _ _ ⟨by omega, by omega⟩ hS (lv_sub hl [2, 3, 4, 5, 6, 7] rfl) h
    · replace h := h.2 c8
      refine lv_aload_n hx hb ddL_law_707 rfl (lv_at hl 5 rfl) ?_
      refine lv_iconst (v := (0 : Int32)) hx hb ddL_law_708 (by decide) ?_
      refine lald_34 hx hb hK hS ddL_law_709 ?_
      refine lv_iload hx hb ddL_law_710 (lv_at hl 0 rfl) ?_
      refine lv_if_eq (tgt := 719) hx hb ddL_law_712 (by decide) (fun c9 => ?_) (fun c9 => ?_)
      · replace h := h.1 c9
        refine lv_lconst (v := (0 : Int32).toInt64) hx hb ddL_law_719 (by decide) ?_
        refine W.lcmp hx hb ddL_law_720 ?_
        refine lv_if_eq (tgt := 726) hx hb ddL_law_721 (by decide) (fun c10 => ?_) (fun c10 => ?_)
        · replace h := h.1 c10
          refine lv_goto (tgt := 2646) hx hb ddL_law_726 (by decide) ?_
          exact kE _ _ _ _ _ _ ⟨by omega, by omega⟩ hS (lv_sub hl [2, 3, 4, 5, 6, 7] rfl) h
        · replace h := h.2 c10
          refine lv_iconst (v := (0 : Int32)) hx hb ddL_law_724 (by decide) ?_
          exact h.elim
      · replace h := h.2 c9
        refine lv_lconst (v := (1 : Int32).toInt64) hx hb ddL_law_715 (by decide) ?_
        refine lv_goto (tgt := 720) hx hb ddL_law_716 (by decide) ?_
        refine W.lcmp hx hb ddL_law_720 ?_
        refine lv_if_eq (tgt := 726) hx hb ddL_law_721 (by decide) (fun c11 => ?_) (fun c11 => ?_)
        · replace h := h.1 c11
          refine lv_goto (tgt := 2646) hx hb ddL_law_726 (by decide) ?_
          exact kE _ _ _ _ _ _ ⟨by omega, by omega⟩ hS (lv_sub hl [2, 3, 4, 5, 6, 7] rfl) h
        · replace h := h.2 c11
          refine lv_iconst (v := (0 : Int32)) hx hb ddL_law_724 (by decide) ?_
          exact h.elim
  · replace h := h.2 c7
    refine lv_iconst (v := (0 : Int32)) hx hb ddL_law_700 (by decide) ?_
    exact h.elim
set_option maxHeartbeats 4000000 in
set_option maxRecDepth 100000 in
theorem lc_9 {p : Program} {l : Launch} {e : Env} {s : State} {m : MethodId} {below : List Frame} {meth : Method} {c : Code} {A : Nat → Prop} {X : GX} {b L : Nat} {xs : Nat → Int32} {Q : State → Prop} (hC : LC l X p s m meth c A b L xs) {x5 a1 a2 a3 a4 : Int32} {σ : Mem} {H : Heap} {locs : List Loc} {ls : Array Slot} {cells slots : Nat} (hj : LJ x5 L xs a1 a2 a3 a4) (hz0 : cells ≤ room_1.cells ∧ slots ≤ room_1.slots) (hz1 : cells + 3 ≤ room_1.cells ∧ slots + 18 ≤ room_1.slots) (hS : WS X A s.heap σ H locs) (hl : lv_has ls 9 [(0, .ref b), (1, .ref (ga X 0)), (2, .ref (ga X 25)), (3, .ref (ga X 34)), (4, .ref (ga X 35)), (5, .int x5)]) {B : Mem → Prop} (h : wplc_9 a1 a2 a3 a4 σ B) (kE : LE p l e s m below meth c A X b x5 Q B cells slots) : W p l e room_1 s m #[Value.ref b] below meth c H locs cells slots Q (F0 m 729 ls []) := by
  obtain ⟨hx, hb, hml, hown, ht, hK, hZ, hA, hY, hX, hbl, hbA, hfl⟩ := hC
  obtain ⟨hj0, hj1, hj2, hj3, hj4, e1, e2, e3, e4⟩ := hj
  unfold wplc_9 at h
  refine lv_aload_n hx hb ddL_law_729 rfl (lv_at hl 1 rfl) ?_
  refine lv_aload_n hx hb ddL_law_730 rfl (lv_at hl 0 rfl) ?_
  refine lv_iload hx hb ddL_law_731 (lv_at hl 5 rfl) ?_
  refine lv_iconst (v := (1 : Int32)) hx hb ddL_law_733 (by decide) ?_
  refine lv_iadd hx hb ddL_law_734 ?_
  refine va_sld hx hb hX hbl hbA hS.2.2 hj1 ddL_law_735 ?_
  rw [e1]
  refine lv_aload_n hx hb ddL_law_736 rfl (lv_at hl 0 rfl) ?_
  refine lv_iload hx hb ddL_law_737 (lv_at hl 5 rfl) ?_
  refine lv_iconst (v := (2 : Int32)) hx hb ddL_law_739 (by decide) ?_
  refine lv_iadd hx hb ddL_law_740 ?_
  refine va_sld hx hb hX hbl hbA hS.2.2 hj2 ddL_law_741 ?_
  rw [e2]
  refine lv_aload_n hx hb ddL_law_742 rfl (lv_at hl 3 rfl) ?_
  refine kw_SI (As := [.ref (ga X 0), .int a1, .int a2, .ref (ga X 34)]) (rest := []) (c_L_remove l X hfl h) mfw_L_remove lk614 hx hb hml hown ht hK hZ hS hA hY ⟨rfl, rfl⟩ ⟨Nat.le_of_ble_eq_true rfl, Nat.le_of_ble_eq_true rfl⟩ rfl hl.1 rfl (Nat.le_of_ble_eq_true rfl) (hz_le hz1 (by decide)) ddL_law_743 (fun r1 σ2 H locs hS h => ?_)
  refine lv_istore (lv' := [(6, .int r1), (0, .ref b), (1, .ref (ga X 0)), (2, .ref (ga X 25)), (3, .ref (ga X 34)), (4, .ref (ga X 35)), (5, .int x5)]) hx hb ddL_law_746 hl (by decide) rfl (fun ls hl => ?_)
  refine lv_aload_n hx hb ddL_law_748 rfl (lv_at hl 3 rfl) ?_
  refine lv_aload_n hx hb ddL_law_749 rfl (lv_at hl 1 rfl) ?_
  refine lv_iload hx hb ddL_law_750 (lv_at hl 6 rfl) ?_
  refine lv_iconst (v := (1 : Int32)) hx hb ddL_law_752 (by decide) ?_
  refine lv_iadd hx hb ddL_law_753 ?_
  refine va_sld hx hb hX hbl hbA hS.2.2 hj1 ddL_law_754 ?_
  rw [e1]
  refine lv_aload_n hx hb ddL_law_755 rfl (lv_at hl 1 rfl) ?_
  refine lv_iload hx hb ddL_law_756 (lv_at hl 6 rfl) ?_
  refine lv_iconst (v := (2 : Int32)) hx hb ddL_law_758 (by decide) ?_
  refine lv_iadd hx hb ddL_law_759 ?_
  refine va_sld hx hb hX hbl hbA hS.2.2 hj2 ddL_law_760 ?_
  rw [e2]
  refine k_VI (As := [.int a1, .int a2]) (rest := []) (c_X5_remove l X h) mf_X5_remove lk1293 hx hb hml hown ht hK hZ hS hA 25 5 rfl rfl rfl ⟨rfl, rfl⟩ ⟨Nat.le_of_ble_eq_true rfl, Nat.le_of_ble_eq_true rfl⟩ rfl hl.1 rfl (Nat.le_of_ble_eq_true rfl) (hz_le hz1 (by decide)) ddL_law_761 (fun r4 σ3 H locs hS h => ?_)
  refine lv_istore (lv' := [(7, .int r4), (6, .int r1), (0, .ref b), (1, .ref (ga X 0)), (2, .ref (ga X 25)), (3, .ref (ga X 34)), (4, .ref (ga X 35)), (5, .int x5)]) hx hb ddL_law_764 hl (by decide) rfl (fun ls hl => ?_)
  refine lv_aload_n hx hb ddL_law_766 rfl (lv_at hl 4 rfl) ?_
  refine k_VI (As := []) (rest := []) (c_X5_thrown l X h) mf_X5_thrown lk1188 hx hb hml hown ht hK hZ hS hA 25 5 rfl rfl rfl ⟨rfl, rfl⟩ ⟨Nat.le_of_ble_eq_true rfl, Nat.le_of_ble_eq_true rfl⟩ rfl hl.1 rfl (Nat.le_of_ble_eq_true rfl) (hz_le hz1 (by decide)) ddL_law_767 (fun r6 σ5 H locs hS h => ?_)
  refine lv_iload hx hb ddL_law_770 (lv_at hl 1 rfl) ?_
  refine lv_icmp_eq (tgt := 777) hx hb ddL_law_772 (by decide) (fun c7 => ?_) (fun c7 => ?_)
  · replace h := h.1 c7
    refine lv_iload hx hb ddL_law_777 (lv_at hl 1 rfl) ?_
    refine lv_if_ne (tgt := 794) hx hb ddL_law_779 (by decide) (fun c8 => ?_) (fun c8 => ?_)
    · replace h := h.1 c8
      refine lv_goto (tgt := 2646) hx hb ddL_law_794 (by decide) ?_
      exact kE _ _ _ _ _ _ ⟨by omega, by omega⟩ hS (lv_sub hl [2, 3, 4, 5, 6, 7] rfl) h
    · replace h := h.2 c8
      refine lv_aload_n hx hb ddL_law_782 rfl (lv_at hl 5 rfl) ?_
      refine lv_iconst (v := (0 : Int32)) hx hb ddL_law_783 (by decide) ?_
      refine lald_34 hx hb hK hS ddL_law_784 ?_
      refine lv_iload hx hb ddL_law_785 (lv_at hl 0 rfl) ?_
      refine lv_i2l hx hb ddL_law_787 rfl ?_
      refine W.lcmp hx hb ddL_law_788 ?_
      refine lv_if_eq (tgt := 794) hx hb ddL_law_789 (by decide) (fun c9 => ?_) (fun c9 => ?_)
      · replace h := h.1 c9
        refine lv_goto (tgt := 2646) hx hb ddL_law_794 (by decide) ?_
        exact kE _ _ _ _ _ _ ⟨by omega, by omega⟩ hS (lv_sub hl [2, 3, 4, 5, 6, 7] rfl) h
      · replace h := h.2 c9
        refine lv_iconst (v := (0 : Int32)) hx hb ddL_law_792 (by decide) ?_
        exact h.elim
  · replace h := h.2 c7
    refine lv_iconst (v := (0 : Int32)) hx hb ddL_law_775 (by decide) ?_
    exact h.elim
set_option maxHeartbeats 4000000 in
set_option maxRecDepth 100000 in
theorem lc_10 {p : Program} {l : Launch} {e : Env} {s : State} {m : MethodId} {below : List Frame} {meth : Method} {c : Code} {A : Nat → Prop} {X : GX} {b L : Nat} {xs : Nat → Int32} {Q : State → Prop} (hC : LC l X p s m meth c A b L xs) {x5 a1 a2 a3 a4 : Int32} {σ : Mem} {H : Heap} {locs : List Loc} {ls : Array Slot} {cells slots : Nat} (hj : LJ x5 L xs a1 a2 a3 a4) (hz0 : cells ≤ room_1.cells ∧ slots ≤ room_1.slots) (hz1 : cells + 3 ≤ room_1.cells ∧ slots + 18 ≤ room_1.slots) (hS : WS X A s.heap σ H locs) (hl : lv_has ls 9 [(0, .ref b), (1, .ref (ga X 0)), (2, .ref (ga X 25)), (3, .ref (ga X 34)), (4, .ref (ga X 35)), (5, .int x5)]) {B : Mem → Prop} (h : wplc_10 a1 a2 a3 a4 σ B) (kE : LE p l e s m below meth c A X b x5 Q B cells slots) : W p l e room_1 s m #[Value.ref b] below meth c H locs cells slots Q (F0 m 797 ls []) := by
  obtain ⟨hx, hb, hml, hown, ht, hK, hZ, hA, hY, hX, hbl, hbA, hfl⟩ := hC
  obtain ⟨hj0, hj1, hj2, hj3, hj4, e1, e2, e3, e4⟩ := hj
  unfold wplc_10 at h
  refine lv_aload_n hx hb ddL_law_797 rfl (lv_at hl 1 rfl) ?_
  refine lv_aload_n hx hb ddL_law_798 rfl (lv_at hl 0 rfl) ?_
  refine lv_iload hx hb ddL_law_799 (lv_at hl 5 rfl) ?_
  refine lv_iconst (v := (1 : Int32)) hx hb ddL_law_801 (by decide) ?_
  refine lv_iadd hx hb ddL_law_802 ?_
  refine va_sld hx hb hX hbl hbA hS.2.2 hj1 ddL_law_803 ?_
  rw [e1]
  refine lv_aload_n hx hb ddL_law_804 rfl (lv_at hl 0 rfl) ?_
  refine lv_iload hx hb ddL_law_805 (lv_at hl 5 rfl) ?_
  refine lv_iconst (v := (2 : Int32)) hx hb ddL_law_807 (by decide) ?_
  refine lv_iadd hx hb ddL_law_808 ?_
  refine va_sld hx hb hX hbl hbA hS.2.2 hj2 ddL_law_809 ?_
  rw [e2]
  refine lv_aload_n hx hb ddL_law_810 rfl (lv_at hl 0 rfl) ?_
  refine lv_iload hx hb ddL_law_811 (lv_at hl 5 rfl) ?_
  refine lv_iconst (v := (3 : Int32)) hx hb ddL_law_813 (by decide) ?_
  refine lv_iadd hx hb ddL_law_814 ?_
  refine va_sld hx hb hX hbl hbA hS.2.2 hj3 ddL_law_815 ?_
  rw [e3]
  refine lv_aload_n hx hb ddL_law_816 rfl (lv_at hl 0 rfl) ?_
  refine lv_iload hx hb ddL_law_817 (lv_at hl 5 rfl) ?_
  refine lv_iconst (v := (4 : Int32)) hx hb ddL_law_819 (by decide) ?_
  refine lv_iadd hx hb ddL_law_820 ?_
  refine va_sld hx hb hX hbl hbA hS.2.2 hj4 ddL_law_821 ?_
  rw [e4]
  refine lv_aload_n hx hb ddL_law_822 rfl (lv_at hl 3 rfl) ?_
  refine kw_SI (As := [.ref (ga X 0), .int a1, .int a2, .int a3, .int a4, .ref (ga X 34)]) (rest := []) (c_L_exchange l X hfl h) mfw_L_exchange lk627 hx hb hml hown ht hK hZ hS hA hY ⟨rfl, rfl⟩ ⟨Nat.le_of_ble_eq_true rfl, Nat.le_of_ble_eq_true rfl⟩ rfl hl.1 rfl (Nat.le_of_ble_eq_true rfl) (hz_le hz1 (by decide)) ddL_law_823 (fun r1 σ2 H locs hS h => ?_)
  refine lv_istore (lv' := [(6, .int r1), (0, .ref b), (1, .ref (ga X 0)), (2, .ref (ga X 25)), (3, .ref (ga X 34)), (4, .ref (ga X 35)), (5, .int x5)]) hx hb ddL_law_826 hl (by decide) rfl (fun ls hl => ?_)
  refine lv_aload_n hx hb ddL_law_828 rfl (lv_at hl 3 rfl) ?_
  refine lv_aload_n hx hb ddL_law_829 rfl (lv_at hl 1 rfl) ?_
  refine lv_iload hx hb ddL_law_830 (lv_at hl 6 rfl) ?_
  refine lv_iconst (v := (1 : Int32)) hx hb ddL_law_832 (by decide) ?_
  refine lv_iadd hx hb ddL_law_833 ?_
  refine va_sld hx hb hX hbl hbA hS.2.2 hj1 ddL_law_834 ?_
  rw [e1]
  refine lv_aload_n hx hb ddL_law_835 rfl (lv_at hl 1 rfl) ?_
  refine lv_iload hx hb ddL_law_836 (lv_at hl 6 rfl) ?_
  refine lv_iconst (v := (2 : Int32)) hx hb ddL_law_838 (by decide) ?_
  refine lv_iadd hx hb ddL_law_839 ?_
  refine va_sld hx hb hX hbl hbA hS.2.2 hj2 ddL_law_840 ?_
  rw [e2]
  refine lv_aload_n hx hb ddL_law_841 rfl (lv_at hl 1 rfl) ?_
  refine lv_iload hx hb ddL_law_842 (lv_at hl 6 rfl) ?_
  refine lv_iconst (v := (3 : Int32)) hx hb ddL_law_844 (by decide) ?_
  refine lv_iadd hx hb ddL_law_845 ?_
  refine va_sld hx hb hX hbl hbA hS.2.2 hj3 ddL_law_846 ?_
  rw [e3]
  refine lv_aload_n hx hb ddL_law_847 rfl (lv_at hl 1 rfl) ?_
  refine lv_iload hx hb ddL_law_848 (lv_at hl 6 rfl) ?_
  refine lv_iconst (v := (4 : Int32)) hx hb ddL_law_850 (by decide) ?_
  refine lv_iadd hx hb ddL_law_851 ?_
  refine va_sld hx hb hX hbl hbA hS.2.2 hj4 ddL_law_852 ?_
  rw [e4]
  refine k_VI (As := [.int a1, .int a2, .int a3, .int a4]) (rest := []) (c_X5_exchange l X h) mf_X5_exchange lk1297 hx hb hml hown ht hK hZ hS hA 25 5 rfl rfl rfl ⟨rfl, rfl⟩ ⟨Nat.le_of_ble_eq_true rfl, Nat.le_of_ble_eq_true rfl⟩ rfl hl.1 rfl (Nat.le_of_ble_eq_true rfl) (hz_le hz1 (by decide)) ddL_law_853 (fun r4 σ3 H locs hS h => ?_)
  refine lv_istore (lv' := [(7, .int r4), (6, .int r1), (0, .ref b), (1, .ref (ga X 0)), (2, .ref (ga X 25)), (3, .ref (ga X 34)), (4, .ref (ga X 35)), (5, .int x5)]) hx hb ddL_law_856 hl (by decide) rfl (fun ls hl => ?_)
  refine lv_aload_n hx hb ddL_law_858 rfl (lv_at hl 4 rfl) ?_
  refine k_VI (As := []) (rest := []) (c_X5_thrown l X h) mf_X5_thrown lk1188 hx hb hml hown ht hK hZ hS hA 25 5 rfl rfl rfl ⟨rfl, rfl⟩ ⟨Nat.le_of_ble_eq_true rfl, Nat.le_of_ble_eq_true rfl⟩ rfl hl.1 rfl (Nat.le_of_ble_eq_true rfl) (hz_le hz1 (by decide)) ddL_law_859 (fun r6 σ5 H locs hS h => ?_)
  refine lv_iload hx hb ddL_law_862 (lv_at hl 1 rfl) ?_
  refine lv_icmp_eq (tgt := 869) hx hb ddL_law_864 (by decide) (fun c7 => ?_) (fun c7 => ?_)
  · replace h := h.1 c7
    refine lv_iload hx hb ddL_law_869 (lv_at hl 1 rfl) ?_
    refine lv_if_ne (tgt := 886) hx hb ddL_law_871 (by decide) (fun c8 => ?_) (fun c8 => ?_)
    · replace h := h.1 c8
      refine lv_goto (tgt := 2646) hx hb ddL_law_886 (by decide) ?_
      exact kE _ _ _ _ _ _ ⟨by omega, by omega⟩ hS (lv_sub hl [2, 3, 4, 5, 6, 7] rfl) h
    · replace h := h.2 c8
      refine lv_aload_n hx hb ddL_law_874 rfl (lv_at hl 5 rfl) ?_
      refine lv_iconst (v := (0 : Int32)) hx hb ddL_law_875 (by decide) ?_
      refine lald_34 hx hb hK hS ddL_law_876 ?_
      refine lv_iload hx hb ddL_law_877 (lv_at hl 0 rfl) ?_
      refine lv_i2l hx hb ddL_law_879 rfl ?_
      refine W.lcmp hx hb ddL_law_880 ?_
      refine lv_if_eq (tgt := 886) hx hb ddL_law_881 (by decide) (fun c9 => ?_) (fun c9 => ?_)
      · replace h := h.1 c9
        refine lv_goto (tgt := 2646) hx hb ddL_law_886 (by decide) ?_
        exact kE _ _ _ _ _ _ ⟨by omega, by omega⟩ hS (lv_sub hl [2, 3, 4, 5, 6, 7] rfl) h
      · replace h := h.2 c9
        refine lv_iconst (v := (0 : Int32)) hx hb ddL_law_884 (by decide) ?_
        exact h.elim
  · replace h := h.2 c7
    refine lv_iconst (v := (0 : Int32)) hx hb ddL_law_867 (by decide) ?_
    exact h.elim
set_option maxHeartbeats 4000000 in
set_option maxRecDepth 100000 in
theorem lc_11 {p : Program} {l : Launch} {e : Env} {s : State} {m : MethodId} {below : List Frame} {meth : Method} {c : Code} {A : Nat → Prop} {X : GX} {b L : Nat} {xs : Nat → Int32} {Q : State → Prop} (hC : LC l X p s m meth c A b L xs) {x5 a1 a2 a3 a4 : Int32} {σ : Mem} {H : Heap} {locs : List Loc} {ls : Array Slot} {cells slots : Nat} (hj : LJ x5 L xs a1 a2 a3 a4) (hz0 : cells ≤ room_1.cells ∧ slots ≤ room_1.slots) (hz1 : cells + 3 ≤ room_1.cells ∧ slots + 18 ≤ room_1.slots) (hS : WS X A s.heap σ H locs) (hl : lv_has ls 9 [(0, .ref b), (1, .ref (ga X 0)), (2, .ref (ga X 25)), (3, .ref (ga X 34)), (4, .ref (ga X 35)), (5, .int x5)]) {B : Mem → Prop} (h : wplc_11 a1 a2 a3 a4 σ B) (kE : LE p l e s m below meth c A X b x5 Q B cells slots) : W p l e room_1 s m #[Value.ref b] below meth c H locs cells slots Q (F0 m 889 ls []) := by
  obtain ⟨hx, hb, hml, hown, ht, hK, hZ, hA, hY, hX, hbl, hbA, hfl⟩ := hC
  obtain ⟨hj0, hj1, hj2, hj3, hj4, e1, e2, e3, e4⟩ := hj
  unfold wplc_11 at h
  refine lv_aload_n hx hb ddL_law_889 rfl (lv_at hl 1 rfl) ?_
  refine lv_aload_n hx hb ddL_law_890 rfl (lv_at hl 0 rfl) ?_
  refine lv_iload hx hb ddL_law_891 (lv_at hl 5 rfl) ?_
  refine lv_iconst (v := (1 : Int32)) hx hb ddL_law_893 (by decide) ?_
  refine lv_iadd hx hb ddL_law_894 ?_
  refine va_sld hx hb hX hbl hbA hS.2.2 hj1 ddL_law_895 ?_
  rw [e1]
  refine lv_aload_n hx hb ddL_law_896 rfl (lv_at hl 3 rfl) ?_
  refine kw_SI (As := [.ref (ga X 0), .int a1, .ref (ga X 34)]) (rest := []) (c_L_fillSlot l X hfl h) mfw_L_fillSlot lk642 hx hb hml hown ht hK hZ hS hA hY ⟨rfl, rfl⟩ ⟨Nat.le_of_ble_eq_true rfl, Nat.le_of_ble_eq_true rfl⟩ rfl hl.1 rfl (Nat.le_of_ble_eq_true rfl) (hz_le hz1 (by decide)) ddL_law_897 (fun r1 σ2 H locs hS h => ?_)
  refine lv_istore (lv' := [(6, .int r1), (0, .ref b), (1, .ref (ga X 0)), (2, .ref (ga X 25)), (3, .ref (ga X 34)), (4, .ref (ga X 35)), (5, .int x5)]) hx hb ddL_law_900 hl (by decide) rfl (fun ls hl => ?_)
  refine lv_aload_n hx hb ddL_law_902 rfl (lv_at hl 3 rfl) ?_
  refine lv_aload_n hx hb ddL_law_903 rfl (lv_at hl 1 rfl) ?_
  refine lv_iload hx hb ddL_law_904 (lv_at hl 6 rfl) ?_
  refine lv_iconst (v := (1 : Int32)) hx hb ddL_law_906 (by decide) ?_
  refine lv_iadd hx hb ddL_law_907 ?_
  refine va_sld hx hb hX hbl hbA hS.2.2 hj1 ddL_law_908 ?_
  rw [e1]
  refine k_VI (As := [.int a1]) (rest := []) (c_X5_fillSlot l X h) mf_X5_fillSlot lk1301 hx hb hml hown ht hK hZ hS hA 25 5 rfl rfl rfl ⟨rfl, rfl⟩ ⟨Nat.le_of_ble_eq_true rfl, Nat.le_of_ble_eq_true rfl⟩ rfl hl.1 rfl (Nat.le_of_ble_eq_true rfl) (hz_le hz1 (by decide)) ddL_law_909 (fun r4 σ3 H locs hS h => ?_)
  refine lv_istore (lv' := [(7, .int r4), (6, .int r1), (0, .ref b), (1, .ref (ga X 0)), (2, .ref (ga X 25)), (3, .ref (ga X 34)), (4, .ref (ga X 35)), (5, .int x5)]) hx hb ddL_law_912 hl (by decide) rfl (fun ls hl => ?_)
  refine lv_aload_n hx hb ddL_law_914 rfl (lv_at hl 4 rfl) ?_
  refine k_VI (As := []) (rest := []) (c_X5_thrown l X h) mf_X5_thrown lk1188 hx hb hml hown ht hK hZ hS hA 25 5 rfl rfl rfl ⟨rfl, rfl⟩ ⟨Nat.le_of_ble_eq_true rfl, Nat.le_of_ble_eq_true rfl⟩ rfl hl.1 rfl (Nat.le_of_ble_eq_true rfl) (hz_le hz1 (by decide)) ddL_law_915 (fun r6 σ5 H locs hS h => ?_)
  refine lv_iload hx hb ddL_law_918 (lv_at hl 1 rfl) ?_
  refine lv_icmp_eq (tgt := 925) hx hb ddL_law_920 (by decide) (fun c7 => ?_) (fun c7 => ?_)
  · replace h := h.1 c7
    refine lv_iload hx hb ddL_law_925 (lv_at hl 1 rfl) ?_
    refine lv_if_ne (tgt := 942) hx hb ddL_law_927 (by decide) (fun c8 => ?_) (fun c8 => ?_)
    · replace h := h.1 c8
      refine lv_goto (tgt := 2646) hx hb ddL_law_942 (by decide) ?_
      exact kE _ _ _ _ _ _ ⟨by omega, by omega⟩ hS (lv_sub hl [2, 3, 4, 5, 6, 7] rfl) h
    · replace h := h.2 c8
      refine lv_aload_n hx hb ddL_law_930 rfl (lv_at hl 5 rfl) ?_
      refine lv_iconst (v := (0 : Int32)) hx hb ddL_law_931 (by decide) ?_
      refine lald_34 hx hb hK hS ddL_law_932 ?_
      refine lv_iload hx hb ddL_law_933 (lv_at hl 0 rfl) ?_
      refine lv_i2l hx hb ddL_law_935 rfl ?_
      refine W.lcmp hx hb ddL_law_936 ?_
      refine lv_if_eq (tgt := 942) hx hb ddL_law_937 (by decide) (fun c9 => ?_) (fun c9 => ?_)
      · replace h := h.1 c9
        refine lv_goto (tgt := 2646) hx hb ddL_law_942 (by decide) ?_
        exact kE _ _ _ _ _ _ ⟨by omega, by omega⟩ hS (lv_sub hl [2, 3, 4, 5, 6, 7] rfl) h
      · replace h := h.2 c9
        refine lv_iconst (v := (0 : Int32)) hx hb ddL_law_940 (by decide) ?_
        exact h.elim
  · replace h := h.2 c7
    refine lv_iconst (v := (0 : Int32)) hx hb ddL_law_923 (by decide) ?_
    exact h.elim
set_option maxHeartbeats 4000000 in
set_option maxRecDepth 100000 in
theorem lc_12 {p : Program} {l : Launch} {e : Env} {s : State} {m : MethodId} {below : List Frame} {meth : Method} {c : Code} {A : Nat → Prop} {X : GX} {b L : Nat} {xs : Nat → Int32} {Q : State → Prop} (hC : LC l X p s m meth c A b L xs) {x5 a1 a2 a3 a4 : Int32} {σ : Mem} {H : Heap} {locs : List Loc} {ls : Array Slot} {cells slots : Nat} (hj : LJ x5 L xs a1 a2 a3 a4) (hz0 : cells ≤ room_1.cells ∧ slots ≤ room_1.slots) (hz1 : cells + 3 ≤ room_1.cells ∧ slots + 18 ≤ room_1.slots) (hS : WS X A s.heap σ H locs) (hl : lv_has ls 9 [(0, .ref b), (1, .ref (ga X 0)), (2, .ref (ga X 25)), (3, .ref (ga X 34)), (4, .ref (ga X 35)), (5, .int x5)]) {B : Mem → Prop} (h : wplc_12 a1 a2 a3 a4 σ B) (kE : LE p l e s m below meth c A X b x5 Q B cells slots) : W p l e room_1 s m #[Value.ref b] below meth c H locs cells slots Q (F0 m 945 ls []) := by
  obtain ⟨hx, hb, hml, hown, ht, hK, hZ, hA, hY, hX, hbl, hbA, hfl⟩ := hC
  obtain ⟨hj0, hj1, hj2, hj3, hj4, e1, e2, e3, e4⟩ := hj
  unfold wplc_12 at h
  refine lv_aload_n hx hb ddL_law_945 rfl (lv_at hl 1 rfl) ?_
  refine lv_aload_n hx hb ddL_law_946 rfl (lv_at hl 0 rfl) ?_
  refine lv_iload hx hb ddL_law_947 (lv_at hl 5 rfl) ?_
  refine lv_iconst (v := (1 : Int32)) hx hb ddL_law_949 (by decide) ?_
  refine lv_iadd hx hb ddL_law_950 ?_
  refine va_sld hx hb hX hbl hbA hS.2.2 hj1 ddL_law_951 ?_
  rw [e1]
  refine lv_aload_n hx hb ddL_law_952 rfl (lv_at hl 0 rfl) ?_
  refine lv_iload hx hb ddL_law_953 (lv_at hl 5 rfl) ?_
  refine lv_iconst (v := (2 : Int32)) hx hb ddL_law_955 (by decide) ?_
  refine lv_iadd hx hb ddL_law_956 ?_
  refine va_sld hx hb hX hbl hbA hS.2.2 hj2 ddL_law_957 ?_
  rw [e2]
  refine lv_aload_n hx hb ddL_law_958 rfl (lv_at hl 3 rfl) ?_
  refine kw_SI (As := [.ref (ga X 0), .int a1, .int a2, .ref (ga X 34)]) (rest := []) (c_L_guardAt l X hfl h) mfw_L_guardAt lk672 hx hb hml hown ht hK hZ hS hA hY ⟨rfl, rfl⟩ ⟨Nat.le_of_ble_eq_true rfl, Nat.le_of_ble_eq_true rfl⟩ rfl hl.1 rfl (Nat.le_of_ble_eq_true rfl) (hz_le hz1 (by decide)) ddL_law_959 (fun r1 σ2 H locs hS h => ?_)
  refine lv_istore (lv' := [(6, .int r1), (0, .ref b), (1, .ref (ga X 0)), (2, .ref (ga X 25)), (3, .ref (ga X 34)), (4, .ref (ga X 35)), (5, .int x5)]) hx hb ddL_law_962 hl (by decide) rfl (fun ls hl => ?_)
  refine lv_aload_n hx hb ddL_law_964 rfl (lv_at hl 3 rfl) ?_
  refine lv_aload_n hx hb ddL_law_965 rfl (lv_at hl 1 rfl) ?_
  refine lv_iload hx hb ddL_law_966 (lv_at hl 6 rfl) ?_
  refine lv_iconst (v := (1 : Int32)) hx hb ddL_law_968 (by decide) ?_
  refine lv_iadd hx hb ddL_law_969 ?_
  refine va_sld hx hb hX hbl hbA hS.2.2 hj1 ddL_law_970 ?_
  rw [e1]
  refine lv_aload_n hx hb ddL_law_971 rfl (lv_at hl 1 rfl) ?_
  refine lv_iload hx hb ddL_law_972 (lv_at hl 6 rfl) ?_
  refine lv_iconst (v := (2 : Int32)) hx hb ddL_law_974 (by decide) ?_
  refine lv_iadd hx hb ddL_law_975 ?_
  refine va_sld hx hb hX hbl hbA hS.2.2 hj2 ddL_law_976 ?_
  rw [e2]
  refine k_VI (As := [.int a1, .int a2]) (rest := []) (c_X5_guardAt l X h) mf_X5_guardAt lk1317 hx hb hml hown ht hK hZ hS hA 25 5 rfl rfl rfl ⟨rfl, rfl⟩ ⟨Nat.le_of_ble_eq_true rfl, Nat.le_of_ble_eq_true rfl⟩ rfl hl.1 rfl (Nat.le_of_ble_eq_true rfl) (hz_le hz1 (by decide)) ddL_law_977 (fun r4 σ3 H locs hS h => ?_)
  refine lv_istore (lv' := [(7, .int r4), (6, .int r1), (0, .ref b), (1, .ref (ga X 0)), (2, .ref (ga X 25)), (3, .ref (ga X 34)), (4, .ref (ga X 35)), (5, .int x5)]) hx hb ddL_law_980 hl (by decide) rfl (fun ls hl => ?_)
  refine lv_aload_n hx hb ddL_law_982 rfl (lv_at hl 4 rfl) ?_
  refine k_VI (As := []) (rest := []) (c_X5_thrown l X h) mf_X5_thrown lk1188 hx hb hml hown ht hK hZ hS hA 25 5 rfl rfl rfl ⟨rfl, rfl⟩ ⟨Nat.le_of_ble_eq_true rfl, Nat.le_of_ble_eq_true rfl⟩ rfl hl.1 rfl (Nat.le_of_ble_eq_true rfl) (hz_le hz1 (by decide)) ddL_law_983 (fun r6 σ5 H locs hS h => ?_)
  refine lv_iload hx hb ddL_law_986 (lv_at hl 1 rfl) ?_
  refine lv_icmp_eq (tgt := 993) hx hb ddL_law_988 (by decide) (fun c7 => ?_) (fun c7 => ?_)
  · replace h := h.1 c7
    refine lv_iload hx hb ddL_law_993 (lv_at hl 1 rfl) ?_
    refine lv_if_ne (tgt := 1010) hx hb ddL_law_995 (by decide) (fun c8 => ?_) (fun c8 => ?_)
    · replace h := h.1 c8
      refine lv_goto (tgt := 2646) hx hb ddL_law_1010 (by decide) ?_
      exact kE _ _ _ _ _ _ ⟨by omega, by omega⟩ hS (lv_sub hl [2, 3, 4, 5, 6, 7] rfl) h
    · replace h := h.2 c8
      refine lv_aload_n hx hb ddL_law_998 rfl (lv_at hl 5 rfl) ?_
      refine lv_iconst (v := (0 : Int32)) hx hb ddL_law_999 (by decide) ?_
      refine lald_34 hx hb hK hS ddL_law_1000 ?_
      refine lv_iload hx hb ddL_law_1001 (lv_at hl 0 rfl) ?_
      refine lv_i2l hx hb ddL_law_1003 rfl ?_
      refine W.lcmp hx hb ddL_law_1004 ?_
      refine lv_if_eq (tgt := 1010) hx hb ddL_law_1005 (by decide) (fun c9 => ?_) (fun c9 => ?_)
      · replace h := h.1 c9
        refine lv_goto (tgt := 2646) hx hb ddL_law_1010 (by decide) ?_
        exact kE _ _ _ _ _ _ ⟨by omega, by omega⟩ hS (lv_sub hl [2, 3, 4, 5, 6, 7] rfl) h
      · replace h := h.2 c9
        refine lv_iconst (v := (0 : Int32)) hx hb ddL_law_1008 (by decide) ?_
        exact h.elim
  · replace h := h.2 c7
    refine lv_iconst (v := (0 : Int32)) hx hb ddL_law_991 (by decide) ?_
    exact h.elim
set_option maxHeartbeats 4000000 in
set_option maxRecDepth 100000 in
theorem lc_13 {p : Program} {l : Launch} {e : Env} {s : State} {m : MethodId} {below : List Frame} {meth : Method} {c : Code} {A : Nat → Prop} {X : GX} {b L : Nat} {xs : Nat → Int32} {Q : State → Prop} (hC : LC l X p s m meth c A b L xs) {x5 a1 a2 a3 a4 : Int32} {σ : Mem} {H : Heap} {locs : List Loc} {ls : Array Slot} {cells slots : Nat} (hj : LJ x5 L xs a1 a2 a3 a4) (hz0 : cells ≤ room_1.cells ∧ slots ≤ room_1.slots) (hz1 : cells + 3 ≤ room_1.cells ∧ slots + 18 ≤ room_1.slots) (hS : WS X A s.heap σ H locs) (hl : lv_has ls 9 [(0, .ref b), (1, .ref (ga X 0)), (2, .ref (ga X 25)), (3, .ref (ga X 34)), (4, .ref (ga X 35)), (5, .int x5)]) {B : Mem → Prop} (h : wplc_13 a1 a2 a3 a4 σ B) (kE : LE p l e s m below meth c A X b x5 Q B cells slots) : W p l e room_1 s m #[Value.ref b] below meth c H locs cells slots Q (F0 m 1013 ls []) := by
  obtain ⟨hx, hb, hml, hown, ht, hK, hZ, hA, hY, hX, hbl, hbA, hfl⟩ := hC
  obtain ⟨hj0, hj1, hj2, hj3, hj4, e1, e2, e3, e4⟩ := hj
  unfold wplc_13 at h
  refine lv_aload_n hx hb ddL_law_1013 rfl (lv_at hl 1 rfl) ?_
  refine lv_aload_n hx hb ddL_law_1014 rfl (lv_at hl 0 rfl) ?_
  refine lv_iload hx hb ddL_law_1015 (lv_at hl 5 rfl) ?_
  refine lv_iconst (v := (1 : Int32)) hx hb ddL_law_1017 (by decide) ?_
  refine lv_iadd hx hb ddL_law_1018 ?_
  refine va_sld hx hb hX hbl hbA hS.2.2 hj1 ddL_law_1019 ?_
  rw [e1]
  refine lv_aload_n hx hb ddL_law_1020 rfl (lv_at hl 0 rfl) ?_
  refine lv_iload hx hb ddL_law_1021 (lv_at hl 5 rfl) ?_
  refine lv_iconst (v := (2 : Int32)) hx hb ddL_law_1023 (by decide) ?_
  refine lv_iadd hx hb ddL_law_1024 ?_
  refine va_sld hx hb hX hbl hbA hS.2.2 hj2 ddL_law_1025 ?_
  rw [e2]
  refine lv_aload_n hx hb ddL_law_1026 rfl (lv_at hl 3 rfl) ?_
  refine kw_SI (As := [.ref (ga X 0), .int a1, .int a2, .ref (ga X 34)]) (rest := []) (c_L_gateOf l X hfl h) mfw_L_gateOf lk681 hx hb hml hown ht hK hZ hS hA hY ⟨rfl, rfl⟩ ⟨Nat.le_of_ble_eq_true rfl, Nat.le_of_ble_eq_true rfl⟩ rfl hl.1 rfl (Nat.le_of_ble_eq_true rfl) (hz_le hz1 (by decide)) ddL_law_1027 (fun r1 σ2 H locs hS h => ?_)
  refine lv_istore (lv' := [(6, .int r1), (0, .ref b), (1, .ref (ga X 0)), (2, .ref (ga X 25)), (3, .ref (ga X 34)), (4, .ref (ga X 35)), (5, .int x5)]) hx hb ddL_law_1030 hl (by decide) rfl (fun ls hl => ?_)
  refine lv_aload_n hx hb ddL_law_1032 rfl (lv_at hl 3 rfl) ?_
  refine lv_aload_n hx hb ddL_law_1033 rfl (lv_at hl 1 rfl) ?_
  refine lv_iload hx hb ddL_law_1034 (lv_at hl 6 rfl) ?_
  refine lv_iconst (v := (1 : Int32)) hx hb ddL_law_1036 (by decide) ?_
  refine lv_iadd hx hb ddL_law_1037 ?_
  refine va_sld hx hb hX hbl hbA hS.2.2 hj1 ddL_law_1038 ?_
  rw [e1]
  refine lv_aload_n hx hb ddL_law_1039 rfl (lv_at hl 1 rfl) ?_
  refine lv_iload hx hb ddL_law_1040 (lv_at hl 6 rfl) ?_
  refine lv_iconst (v := (2 : Int32)) hx hb ddL_law_1042 (by decide) ?_
  refine lv_iadd hx hb ddL_law_1043 ?_
  refine va_sld hx hb hX hbl hbA hS.2.2 hj2 ddL_law_1044 ?_
  rw [e2]
  refine k_VI (As := [.int a1, .int a2]) (rest := []) (c_X5_gateOf l X h) mf_X5_gateOf lk1321 hx hb hml hown ht hK hZ hS hA 25 5 rfl rfl rfl ⟨rfl, rfl⟩ ⟨Nat.le_of_ble_eq_true rfl, Nat.le_of_ble_eq_true rfl⟩ rfl hl.1 rfl (Nat.le_of_ble_eq_true rfl) (hz_le hz1 (by decide)) ddL_law_1045 (fun r4 σ3 H locs hS h => ?_)
  refine lv_istore (lv' := [(7, .int r4), (6, .int r1), (0, .ref b), (1, .ref (ga X 0)), (2, .ref (ga X 25)), (3, .ref (ga X 34)), (4, .ref (ga X 35)), (5, .int x5)]) hx hb ddL_law_1048 hl (by decide) rfl (fun ls hl => ?_)
  refine lv_aload_n hx hb ddL_law_1050 rfl (lv_at hl 4 rfl) ?_
  refine k_VI (As := []) (rest := []) (c_X5_thrown l X h) mf_X5_thrown lk1188 hx hb hml hown ht hK hZ hS hA 25 5 rfl rfl rfl ⟨rfl, rfl⟩ ⟨Nat.le_of_ble_eq_true rfl, Nat.le_of_ble_eq_true rfl⟩ rfl hl.1 rfl (Nat.le_of_ble_eq_true rfl) (hz_le hz1 (by decide)) ddL_law_1051 (fun r6 σ5 H locs hS h => ?_)
  refine lv_iload hx hb ddL_law_1054 (lv_at hl 1 rfl) ?_
  refine lv_icmp_eq (tgt := 1061) hx hb ddL_law_1056 (by decide) (fun c7 => ?_) (fun c7 => ?_)
  · replace h := h.1 c7
    refine lv_iload hx hb ddL_law_1061 (lv_at hl 1 rfl) ?_
    refine lv_if_ne (tgt := 1078) hx hb ddL_law_1063 (by decide) (fun c8 => ?_) (fun c8 => ?_)
    · replace h := h.1 c8
      refine lv_goto (tgt := 2646) hx hb ddL_law_1078 (by decide) ?_
      exact kE _ _ _ _ _ _ ⟨by omega, by omega⟩ hS (lv_sub hl [2, 3, 4, 5, 6, 7] rfl) h
    · replace h := h.2 c8
      refine lv_aload_n hx hb ddL_law_1066 rfl (lv_at hl 5 rfl) ?_
      refine lv_iconst (v := (0 : Int32)) hx hb ddL_law_1067 (by decide) ?_
      refine lald_34 hx hb hK hS ddL_law_1068 ?_
      refine lv_iload hx hb ddL_law_1069 (lv_at hl 0 rfl) ?_
      refine lv_i2l hx hb ddL_law_1071 rfl ?_
      refine W.lcmp hx hb ddL_law_1072 ?_
      refine lv_if_eq (tgt := 1078) hx hb ddL_law_1073 (by decide) (fun c9 => ?_) (fun c9 => ?_)
      · replace h := h.1 c9
        refine lv_goto (tgt := 2646) hx hb ddL_law_1078 (by decide) ?_
        exact kE _ _ _ _ _ _ ⟨by omega, by omega⟩ hS (lv_sub hl [2, 3, 4, 5, 6, 7] rfl) h
      · replace h := h.2 c9
        refine lv_iconst (v := (0 : Int32)) hx hb ddL_law_1076 (by decide) ?_
        exact h.elim
  · replace h := h.2 c7
    refine lv_iconst (v := (0 : Int32)) hx hb ddL_law_1059 (by decide) ?_
    exact h.elim
set_option maxHeartbeats 4000000 in
set_option maxRecDepth 100000 in
theorem lc_14 {p : Program} {l : Launch} {e : Env} {s : State} {m : MethodId} {below : List Frame} {meth : Method} {c : Code} {A : Nat → Prop} {X : GX} {b L : Nat} {xs : Nat → Int32} {Q : State → Prop} (hC : LC l X p s m meth c A b L xs) {x5 a1 a2 a3 a4 : Int32} {σ : Mem} {H : Heap} {locs : List Loc} {ls : Array Slot} {cells slots : Nat} (hj : LJ x5 L xs a1 a2 a3 a4) (hz0 : cells ≤ room_1.cells ∧ slots ≤ room_1.slots) (hz1 : cells + 3 ≤ room_1.cells ∧ slots + 18 ≤ room_1.slots) (hS : WS X A s.heap σ H locs) (hl : lv_has ls 9 [(0, .ref b), (1, .ref (ga X 0)), (2, .ref (ga X 25)), (3, .ref (ga X 34)), (4, .ref (ga X 35)), (5, .int x5)]) {B : Mem → Prop} (h : wplc_14 a1 a2 a3 a4 σ B) (kE : LE p l e s m below meth c A X b x5 Q B cells slots) : W p l e room_1 s m #[Value.ref b] below meth c H locs cells slots Q (F0 m 1081 ls []) := by
  obtain ⟨hx, hb, hml, hown, ht, hK, hZ, hA, hY, hX, hbl, hbA, hfl⟩ := hC
  obtain ⟨hj0, hj1, hj2, hj3, hj4, e1, e2, e3, e4⟩ := hj
  unfold wplc_14 at h
  refine lv_aload_n hx hb ddL_law_1081 rfl (lv_at hl 1 rfl) ?_
  refine lv_aload_n hx hb ddL_law_1082 rfl (lv_at hl 0 rfl) ?_
  refine lv_iload hx hb ddL_law_1083 (lv_at hl 5 rfl) ?_
  refine lv_iconst (v := (1 : Int32)) hx hb ddL_law_1085 (by decide) ?_
  refine lv_iadd hx hb ddL_law_1086 ?_
  refine va_sld hx hb hX hbl hbA hS.2.2 hj1 ddL_law_1087 ?_
  rw [e1]
  refine lv_aload_n hx hb ddL_law_1088 rfl (lv_at hl 3 rfl) ?_
  refine kw_SI (As := [.ref (ga X 0), .int a1, .ref (ga X 34)]) (rest := []) (c_L_dutiesOf l X hfl h) mfw_L_dutiesOf lk694 hx hb hml hown ht hK hZ hS hA hY ⟨rfl, rfl⟩ ⟨Nat.le_of_ble_eq_true rfl, Nat.le_of_ble_eq_true rfl⟩ rfl hl.1 rfl (Nat.le_of_ble_eq_true rfl) (hz_le hz1 (by decide)) ddL_law_1089 (fun r1 σ2 H locs hS h => ?_)
  refine lv_istore (lv' := [(6, .int r1), (0, .ref b), (1, .ref (ga X 0)), (2, .ref (ga X 25)), (3, .ref (ga X 34)), (4, .ref (ga X 35)), (5, .int x5)]) hx hb ddL_law_1092 hl (by decide) rfl (fun ls hl => ?_)
  refine lv_aload_n hx hb ddL_law_1094 rfl (lv_at hl 3 rfl) ?_
  refine lv_aload_n hx hb ddL_law_1095 rfl (lv_at hl 1 rfl) ?_
  refine lv_iload hx hb ddL_law_1096 (lv_at hl 6 rfl) ?_
  refine lv_iconst (v := (1 : Int32)) hx hb ddL_law_1098 (by decide) ?_
  refine lv_iadd hx hb ddL_law_1099 ?_
  refine va_sld hx hb hX hbl hbA hS.2.2 hj1 ddL_law_1100 ?_
  rw [e1]
  refine k_VI (As := [.int a1]) (rest := []) (c_X5_dutiesOf l X h) mf_X5_dutiesOf lk1325 hx hb hml hown ht hK hZ hS hA 25 5 rfl rfl rfl ⟨rfl, rfl⟩ ⟨Nat.le_of_ble_eq_true rfl, Nat.le_of_ble_eq_true rfl⟩ rfl hl.1 rfl (Nat.le_of_ble_eq_true rfl) (hz_le hz1 (by decide)) ddL_law_1101 (fun r4 σ3 H locs hS h => ?_)
  refine lv_istore (lv' := [(7, .int r4), (6, .int r1), (0, .ref b), (1, .ref (ga X 0)), (2, .ref (ga X 25)), (3, .ref (ga X 34)), (4, .ref (ga X 35)), (5, .int x5)]) hx hb ddL_law_1104 hl (by decide) rfl (fun ls hl => ?_)
  refine lv_aload_n hx hb ddL_law_1106 rfl (lv_at hl 4 rfl) ?_
  refine k_VI (As := []) (rest := []) (c_X5_thrown l X h) mf_X5_thrown lk1188 hx hb hml hown ht hK hZ hS hA 25 5 rfl rfl rfl ⟨rfl, rfl⟩ ⟨Nat.le_of_ble_eq_true rfl, Nat.le_of_ble_eq_true rfl⟩ rfl hl.1 rfl (Nat.le_of_ble_eq_true rfl) (hz_le hz1 (by decide)) ddL_law_1107 (fun r6 σ5 H locs hS h => ?_)
  refine lv_iload hx hb ddL_law_1110 (lv_at hl 1 rfl) ?_
  refine lv_icmp_eq (tgt := 1117) hx hb ddL_law_1112 (by decide) (fun c7 => ?_) (fun c7 => ?_)
  · replace h := h.1 c7
    refine lv_iload hx hb ddL_law_1117 (lv_at hl 1 rfl) ?_
    refine lv_if_ne (tgt := 1134) hx hb ddL_law_1119 (by decide) (fun c8 => ?_) (fun c8 => ?_)
    · replace h := h.1 c8
      refine lv_goto (tgt := 2646) hx hb ddL_law_1134 (by decide) ?_
      exact kE _ _ _ _ _ _ ⟨by omega, by omega⟩ hS (lv_sub hl [2, 3, 4, 5, 6, 7] rfl) h
    · replace h := h.2 c8
      refine lv_aload_n hx hb ddL_law_1122 rfl (lv_at hl 5 rfl) ?_
      refine lv_iconst (v := (0 : Int32)) hx hb ddL_law_1123 (by decide) ?_
      refine lald_34 hx hb hK hS ddL_law_1124 ?_
      refine lv_iload hx hb ddL_law_1125 (lv_at hl 0 rfl) ?_
      refine lv_i2l hx hb ddL_law_1127 rfl ?_
      refine W.lcmp hx hb ddL_law_1128 ?_
      refine lv_if_eq (tgt := 1134) hx hb ddL_law_1129 (by decide) (fun c9 => ?_) (fun c9 => ?_)
      · replace h := h.1 c9
        refine lv_goto (tgt := 2646) hx hb ddL_law_1134 (by decide) ?_
        exact kE _ _ _ _ _ _ ⟨by omega, by omega⟩ hS (lv_sub hl [2, 3, 4, 5, 6, 7] rfl) h
      · replace h := h.2 c9
        refine lv_iconst (v := (0 : Int32)) hx hb ddL_law_1132 (by decide) ?_
        exact h.elim
  · replace h := h.2 c7
    refine lv_iconst (v := (0 : Int32)) hx hb ddL_law_1115 (by decide) ?_
    exact h.elim
set_option maxHeartbeats 4000000 in
set_option maxRecDepth 100000 in
theorem lc_15 {p : Program} {l : Launch} {e : Env} {s : State} {m : MethodId} {below : List Frame} {meth : Method} {c : Code} {A : Nat → Prop} {X : GX} {b L : Nat} {xs : Nat → Int32} {Q : State → Prop} (hC : LC l X p s m meth c A b L xs) {x5 a1 a2 a3 a4 : Int32} {σ : Mem} {H : Heap} {locs : List Loc} {ls : Array Slot} {cells slots : Nat} (hj : LJ x5 L xs a1 a2 a3 a4) (hz0 : cells ≤ room_1.cells ∧ slots ≤ room_1.slots) (hz1 : cells + 3 ≤ room_1.cells ∧ slots + 18 ≤ room_1.slots) (hS : WS X A s.heap σ H locs) (hl : lv_has ls 9 [(0, .ref b), (1, .ref (ga X 0)), (2, .ref (ga X 25)), (3, .ref (ga X 34)), (4, .ref (ga X 35)), (5, .int x5)]) {B : Mem → Prop} (h : wplc_15 a1 a2 a3 a4 σ B) (kE : LE p l e s m below meth c A X b x5 Q B cells slots) : W p l e room_1 s m #[Value.ref b] below meth c H locs cells slots Q (F0 m 1137 ls []) := by
  obtain ⟨hx, hb, hml, hown, ht, hK, hZ, hA, hY, hX, hbl, hbA, hfl⟩ := hC
  obtain ⟨hj0, hj1, hj2, hj3, hj4, e1, e2, e3, e4⟩ := hj
  unfold wplc_15 at h
  refine lv_aload_n hx hb ddL_law_1137 rfl (lv_at hl 1 rfl) ?_
  refine k_VI (As := []) (rest := []) (c_X4_dutyCount l X h) mf_X4_dutyCount lk162 hx hb hml hown ht hK hZ hS hA 0 0 rfl rfl rfl ⟨rfl, rfl⟩ ⟨Nat.le_of_ble_eq_true rfl, Nat.le_of_ble_eq_true rfl⟩ rfl hl.1 rfl (Nat.le_of_ble_eq_true rfl) hz0 ddL_law_1138 (fun r2 σ1 H locs hS h => ?_)
  refine lv_aload_n hx hb ddL_law_1141 rfl (lv_at hl 2 rfl) ?_
  refine k_VI (As := []) (rest := [.int r2]) (c_X5_dutyCount l X h) mf_X5_dutyCount lk1329 hx hb hml hown ht hK hZ hS hA 25 5 rfl rfl rfl ⟨rfl, rfl⟩ ⟨Nat.le_of_ble_eq_true rfl, Nat.le_of_ble_eq_true rfl⟩ rfl hl.1 rfl (Nat.le_of_ble_eq_true rfl) hz0 ddL_law_1142 (fun r4 σ3 H locs hS h => ?_)
  refine lv_icmp_eq (tgt := 2646) hx hb ddL_law_1145 (by decide) (fun c5 => ?_) (fun c5 => ?_)
  · replace h := h.1 c5
    exact kE _ _ _ _ _ _ ⟨by omega, by omega⟩ hS (lv_sub hl [0, 1, 2, 3, 4, 5] rfl) h
  · replace h := h.2 c5
    refine lv_iconst (v := (0 : Int32)) hx hb ddL_law_1148 (by decide) ?_
    exact h.elim
set_option maxHeartbeats 4000000 in
set_option maxRecDepth 100000 in
theorem lc_16 {p : Program} {l : Launch} {e : Env} {s : State} {m : MethodId} {below : List Frame} {meth : Method} {c : Code} {A : Nat → Prop} {X : GX} {b L : Nat} {xs : Nat → Int32} {Q : State → Prop} (hC : LC l X p s m meth c A b L xs) {x5 a1 a2 a3 a4 : Int32} {σ : Mem} {H : Heap} {locs : List Loc} {ls : Array Slot} {cells slots : Nat} (hj : LJ x5 L xs a1 a2 a3 a4) (hz0 : cells ≤ room_1.cells ∧ slots ≤ room_1.slots) (hz1 : cells + 3 ≤ room_1.cells ∧ slots + 18 ≤ room_1.slots) (hS : WS X A s.heap σ H locs) (hl : lv_has ls 9 [(0, .ref b), (1, .ref (ga X 0)), (2, .ref (ga X 25)), (3, .ref (ga X 34)), (4, .ref (ga X 35)), (5, .int x5)]) {B : Mem → Prop} (h : wplc_16 a1 a2 a3 a4 σ B) (kE : LE p l e s m below meth c A X b x5 Q B cells slots) : W p l e room_1 s m #[Value.ref b] below meth c H locs cells slots Q (F0 m 1150 ls []) := by
  obtain ⟨hx, hb, hml, hown, ht, hK, hZ, hA, hY, hX, hbl, hbA, hfl⟩ := hC
  obtain ⟨hj0, hj1, hj2, hj3, hj4, e1, e2, e3, e4⟩ := hj
  unfold wplc_16 at h
  refine lv_aload_n hx hb ddL_law_1150 rfl (lv_at hl 1 rfl) ?_
  refine lv_aload_n hx hb ddL_law_1151 rfl (lv_at hl 0 rfl) ?_
  refine lv_iload hx hb ddL_law_1152 (lv_at hl 5 rfl) ?_
  refine lv_iconst (v := (1 : Int32)) hx hb ddL_law_1154 (by decide) ?_
  refine lv_iadd hx hb ddL_law_1155 ?_
  refine va_sld hx hb hX hbl hbA hS.2.2 hj1 ddL_law_1156 ?_
  rw [e1]
  refine lv_aload_n hx hb ddL_law_1157 rfl (lv_at hl 3 rfl) ?_
  refine kw_SI (As := [.ref (ga X 0), .int a1, .ref (ga X 34)]) (rest := []) (c_L_openGates l X hfl h) mfw_L_openGates lk701 hx hb hml hown ht hK hZ hS hA hY ⟨rfl, rfl⟩ ⟨Nat.le_of_ble_eq_true rfl, Nat.le_of_ble_eq_true rfl⟩ rfl hl.1 rfl (Nat.le_of_ble_eq_true rfl) (hz_le hz1 (by decide)) ddL_law_1158 (fun r1 σ2 H locs hS h => ?_)
  refine lv_istore (lv' := [(6, .int r1), (0, .ref b), (1, .ref (ga X 0)), (2, .ref (ga X 25)), (3, .ref (ga X 34)), (4, .ref (ga X 35)), (5, .int x5)]) hx hb ddL_law_1161 hl (by decide) rfl (fun ls hl => ?_)
  refine lv_aload_n hx hb ddL_law_1163 rfl (lv_at hl 3 rfl) ?_
  refine lv_aload_n hx hb ddL_law_1164 rfl (lv_at hl 1 rfl) ?_
  refine lv_iload hx hb ddL_law_1165 (lv_at hl 6 rfl) ?_
  refine lv_iconst (v := (1 : Int32)) hx hb ddL_law_1167 (by decide) ?_
  refine lv_iadd hx hb ddL_law_1168 ?_
  refine va_sld hx hb hX hbl hbA hS.2.2 hj1 ddL_law_1169 ?_
  rw [e1]
  refine k_VI (As := [.int a1]) (rest := []) (c_X5_openGates l X h) mf_X5_openGates lk1337 hx hb hml hown ht hK hZ hS hA 25 5 rfl rfl rfl ⟨rfl, rfl⟩ ⟨Nat.le_of_ble_eq_true rfl, Nat.le_of_ble_eq_true rfl⟩ rfl hl.1 rfl (Nat.le_of_ble_eq_true rfl) (hz_le hz1 (by decide)) ddL_law_1170 (fun r4 σ3 H locs hS h => ?_)
  refine lv_istore (lv' := [(7, .int r4), (6, .int r1), (0, .ref b), (1, .ref (ga X 0)), (2, .ref (ga X 25)), (3, .ref (ga X 34)), (4, .ref (ga X 35)), (5, .int x5)]) hx hb ddL_law_1173 hl (by decide) rfl (fun ls hl => ?_)
  refine lv_aload_n hx hb ddL_law_1175 rfl (lv_at hl 4 rfl) ?_
  refine k_VI (As := []) (rest := []) (c_X5_thrown l X h) mf_X5_thrown lk1188 hx hb hml hown ht hK hZ hS hA 25 5 rfl rfl rfl ⟨rfl, rfl⟩ ⟨Nat.le_of_ble_eq_true rfl, Nat.le_of_ble_eq_true rfl⟩ rfl hl.1 rfl (Nat.le_of_ble_eq_true rfl) (hz_le hz1 (by decide)) ddL_law_1176 (fun r6 σ5 H locs hS h => ?_)
  refine lv_iload hx hb ddL_law_1179 (lv_at hl 1 rfl) ?_
  refine lv_icmp_eq (tgt := 1186) hx hb ddL_law_1181 (by decide) (fun c7 => ?_) (fun c7 => ?_)
  · replace h := h.1 c7
    refine lv_iload hx hb ddL_law_1186 (lv_at hl 1 rfl) ?_
    refine lv_if_ne (tgt := 1203) hx hb ddL_law_1188 (by decide) (fun c8 => ?_) (fun c8 => ?_)
    · replace h := h.1 c8
      refine lv_goto (tgt := 2646) hx hb ddL_law_1203 (by decide) ?_
      exact kE _ _ _ _ _ _ ⟨by omega, by omega⟩ hS (lv_sub hl [2, 3, 4, 5, 6, 7] rfl) h
    · replace h := h.2 c8
      refine lv_aload_n hx hb ddL_law_1191 rfl (lv_at hl 5 rfl) ?_
      refine lv_iconst (v := (0 : Int32)) hx hb ddL_law_1192 (by decide) ?_
      refine lald_34 hx hb hK hS ddL_law_1193 ?_
      refine lv_iload hx hb ddL_law_1194 (lv_at hl 0 rfl) ?_
      refine lv_i2l hx hb ddL_law_1196 rfl ?_
      refine W.lcmp hx hb ddL_law_1197 ?_
      refine lv_if_eq (tgt := 1203) hx hb ddL_law_1198 (by decide) (fun c9 => ?_) (fun c9 => ?_)
      · replace h := h.1 c9
        refine lv_goto (tgt := 2646) hx hb ddL_law_1203 (by decide) ?_
        exact kE _ _ _ _ _ _ ⟨by omega, by omega⟩ hS (lv_sub hl [2, 3, 4, 5, 6, 7] rfl) h
      · replace h := h.2 c9
        refine lv_iconst (v := (0 : Int32)) hx hb ddL_law_1201 (by decide) ?_
        exact h.elim
  · replace h := h.2 c7
    refine lv_iconst (v := (0 : Int32)) hx hb ddL_law_1184 (by decide) ?_
    exact h.elim
set_option maxHeartbeats 4000000 in
set_option maxRecDepth 100000 in
theorem lc_17 {p : Program} {l : Launch} {e : Env} {s : State} {m : MethodId} {below : List Frame} {meth : Method} {c : Code} {A : Nat → Prop} {X : GX} {b L : Nat} {xs : Nat → Int32} {Q : State → Prop} (hC : LC l X p s m meth c A b L xs) {x5 a1 a2 a3 a4 : Int32} {σ : Mem} {H : Heap} {locs : List Loc} {ls : Array Slot} {cells slots : Nat} (hj : LJ x5 L xs a1 a2 a3 a4) (hz0 : cells ≤ room_1.cells ∧ slots ≤ room_1.slots) (hz1 : cells + 3 ≤ room_1.cells ∧ slots + 18 ≤ room_1.slots) (hS : WS X A s.heap σ H locs) (hl : lv_has ls 9 [(0, .ref b), (1, .ref (ga X 0)), (2, .ref (ga X 25)), (3, .ref (ga X 34)), (4, .ref (ga X 35)), (5, .int x5)]) {B : Mem → Prop} (h : wplc_17 a1 a2 a3 a4 σ B) (kE : LE p l e s m below meth c A X b x5 Q B cells slots) : W p l e room_1 s m #[Value.ref b] below meth c H locs cells slots Q (F0 m 1206 ls []) := by
  obtain ⟨hx, hb, hml, hown, ht, hK, hZ, hA, hY, hX, hbl, hbA, hfl⟩ := hC
  obtain ⟨hj0, hj1, hj2, hj3, hj4, e1, e2, e3, e4⟩ := hj
  unfold wplc_17 at h
  refine lv_aload_n hx hb ddL_law_1206 rfl (lv_at hl 1 rfl) ?_
  refine k_VI (As := []) (rest := []) (c_X4_openPlaces l X h) mf_X4_openPlaces lk190 hx hb hml hown ht hK hZ hS hA 0 0 rfl rfl rfl ⟨rfl, rfl⟩ ⟨Nat.le_of_ble_eq_true rfl, Nat.le_of_ble_eq_true rfl⟩ rfl hl.1 rfl (Nat.le_of_ble_eq_true rfl) hz0 ddL_law_1207 (fun r2 σ1 H locs hS h => ?_)
  refine lv_aload_n hx hb ddL_law_1210 rfl (lv_at hl 2 rfl) ?_
  refine k_VI (As := []) (rest := [.int r2]) (c_X5_openPlaces l X h) mf_X5_openPlaces lk1345 hx hb hml hown ht hK hZ hS hA 25 5 rfl rfl rfl ⟨rfl, rfl⟩ ⟨Nat.le_of_ble_eq_true rfl, Nat.le_of_ble_eq_true rfl⟩ rfl hl.1 rfl (Nat.le_of_ble_eq_true rfl) hz0 ddL_law_1211 (fun r4 σ3 H locs hS h => ?_)
  refine lv_icmp_eq (tgt := 2646) hx hb ddL_law_1214 (by decide) (fun c5 => ?_) (fun c5 => ?_)
  · replace h := h.1 c5
    exact kE _ _ _ _ _ _ ⟨by omega, by omega⟩ hS (lv_sub hl [0, 1, 2, 3, 4, 5] rfl) h
  · replace h := h.2 c5
    refine lv_iconst (v := (0 : Int32)) hx hb ddL_law_1217 (by decide) ?_
    exact h.elim
set_option maxHeartbeats 4000000 in
set_option maxRecDepth 100000 in
theorem lc_18 {p : Program} {l : Launch} {e : Env} {s : State} {m : MethodId} {below : List Frame} {meth : Method} {c : Code} {A : Nat → Prop} {X : GX} {b L : Nat} {xs : Nat → Int32} {Q : State → Prop} (hC : LC l X p s m meth c A b L xs) {x5 a1 a2 a3 a4 : Int32} {σ : Mem} {H : Heap} {locs : List Loc} {ls : Array Slot} {cells slots : Nat} (hj : LJ x5 L xs a1 a2 a3 a4) (hz0 : cells ≤ room_1.cells ∧ slots ≤ room_1.slots) (hz1 : cells + 3 ≤ room_1.cells ∧ slots + 18 ≤ room_1.slots) (hS : WS X A s.heap σ H locs) (hl : lv_has ls 9 [(0, .ref b), (1, .ref (ga X 0)), (2, .ref (ga X 25)), (3, .ref (ga X 34)), (4, .ref (ga X 35)), (5, .int x5)]) {B : Mem → Prop} (h : wplc_18 a1 a2 a3 a4 σ B) (kE : LE p l e s m below meth c A X b x5 Q B cells slots) : W p l e room_1 s m #[Value.ref b] below meth c H locs cells slots Q (F0 m 1219 ls []) := by
  obtain ⟨hx, hb, hml, hown, ht, hK, hZ, hA, hY, hX, hbl, hbA, hfl⟩ := hC
  obtain ⟨hj0, hj1, hj2, hj3, hj4, e1, e2, e3, e4⟩ := hj
  unfold wplc_18 at h
  refine lv_aload_n hx hb ddL_law_1219 rfl (lv_at hl 1 rfl) ?_
  refine k_VI (As := []) (rest := []) (c_X4_openPlacesBySlots l X h) mf_X4_openPlacesBySlots lk202 hx hb hml hown ht hK hZ hS hA 0 0 rfl rfl rfl ⟨rfl, rfl⟩ ⟨Nat.le_of_ble_eq_true rfl, Nat.le_of_ble_eq_true rfl⟩ rfl hl.1 rfl (Nat.le_of_ble_eq_true rfl) hz0 ddL_law_1220 (fun r2 σ1 H locs hS h => ?_)
  refine lv_aload_n hx hb ddL_law_1223 rfl (lv_at hl 2 rfl) ?_
  refine k_VI (As := []) (rest := [.int r2]) (c_X5_openPlacesBySlots l X h) mf_X5_openPlacesBySlots lk1353 hx hb hml hown ht hK hZ hS hA 25 5 rfl rfl rfl ⟨rfl, rfl⟩ ⟨Nat.le_of_ble_eq_true rfl, Nat.le_of_ble_eq_true rfl⟩ rfl hl.1 rfl (Nat.le_of_ble_eq_true rfl) hz0 ddL_law_1224 (fun r4 σ3 H locs hS h => ?_)
  refine lv_icmp_eq (tgt := 2646) hx hb ddL_law_1227 (by decide) (fun c5 => ?_) (fun c5 => ?_)
  · replace h := h.1 c5
    exact kE _ _ _ _ _ _ ⟨by omega, by omega⟩ hS (lv_sub hl [0, 1, 2, 3, 4, 5] rfl) h
  · replace h := h.2 c5
    refine lv_iconst (v := (0 : Int32)) hx hb ddL_law_1230 (by decide) ?_
    exact h.elim
set_option maxHeartbeats 4000000 in
set_option maxRecDepth 100000 in
theorem lc_19 {p : Program} {l : Launch} {e : Env} {s : State} {m : MethodId} {below : List Frame} {meth : Method} {c : Code} {A : Nat → Prop} {X : GX} {b L : Nat} {xs : Nat → Int32} {Q : State → Prop} (hC : LC l X p s m meth c A b L xs) {x5 a1 a2 a3 a4 : Int32} {σ : Mem} {H : Heap} {locs : List Loc} {ls : Array Slot} {cells slots : Nat} (hj : LJ x5 L xs a1 a2 a3 a4) (hz0 : cells ≤ room_1.cells ∧ slots ≤ room_1.slots) (hz1 : cells + 3 ≤ room_1.cells ∧ slots + 18 ≤ room_1.slots) (hS : WS X A s.heap σ H locs) (hl : lv_has ls 9 [(0, .ref b), (1, .ref (ga X 0)), (2, .ref (ga X 25)), (3, .ref (ga X 34)), (4, .ref (ga X 35)), (5, .int x5)]) {B : Mem → Prop} (h : wplc_19 a1 a2 a3 a4 σ B) (kE : LE p l e s m below meth c A X b x5 Q B cells slots) : W p l e room_1 s m #[Value.ref b] below meth c H locs cells slots Q (F0 m 1232 ls []) := by
  obtain ⟨hx, hb, hml, hown, ht, hK, hZ, hA, hY, hX, hbl, hbA, hfl⟩ := hC
  obtain ⟨hj0, hj1, hj2, hj3, hj4, e1, e2, e3, e4⟩ := hj
  unfold wplc_19 at h
  refine lv_aload_n hx hb ddL_law_1232 rfl (lv_at hl 1 rfl) ?_
  refine lv_aload_n hx hb ddL_law_1233 rfl (lv_at hl 0 rfl) ?_
  refine lv_iload hx hb ddL_law_1234 (lv_at hl 5 rfl) ?_
  refine lv_iconst (v := (1 : Int32)) hx hb ddL_law_1236 (by decide) ?_
  refine lv_iadd hx hb ddL_law_1237 ?_
  refine va_sld hx hb hX hbl hbA hS.2.2 hj1 ddL_law_1238 ?_
  rw [e1]
  refine lv_aload_n hx hb ddL_law_1239 rfl (lv_at hl 3 rfl) ?_
  refine kw_SI (As := [.ref (ga X 0), .int a1, .ref (ga X 34)]) (rest := []) (c_L_mostDuties l X hfl h) mfw_L_mostDuties lk708 hx hb hml hown ht hK hZ hS hA hY ⟨rfl, rfl⟩ ⟨Nat.le_of_ble_eq_true rfl, Nat.le_of_ble_eq_true rfl⟩ rfl hl.1 rfl (Nat.le_of_ble_eq_true rfl) (hz_le hz1 (by decide)) ddL_law_1240 (fun r1 σ2 H locs hS h => ?_)
  refine lv_istore (lv' := [(6, .int r1), (0, .ref b), (1, .ref (ga X 0)), (2, .ref (ga X 25)), (3, .ref (ga X 34)), (4, .ref (ga X 35)), (5, .int x5)]) hx hb ddL_law_1243 hl (by decide) rfl (fun ls hl => ?_)
  refine lv_aload_n hx hb ddL_law_1245 rfl (lv_at hl 3 rfl) ?_
  refine lv_aload_n hx hb ddL_law_1246 rfl (lv_at hl 1 rfl) ?_
  refine lv_iload hx hb ddL_law_1247 (lv_at hl 6 rfl) ?_
  refine lv_iconst (v := (1 : Int32)) hx hb ddL_law_1249 (by decide) ?_
  refine lv_iadd hx hb ddL_law_1250 ?_
  refine va_sld hx hb hX hbl hbA hS.2.2 hj1 ddL_law_1251 ?_
  rw [e1]
  refine k_VI (As := [.int a1]) (rest := []) (c_X5_mostDuties l X h) mf_X5_mostDuties lk1357 hx hb hml hown ht hK hZ hS hA 25 5 rfl rfl rfl ⟨rfl, rfl⟩ ⟨Nat.le_of_ble_eq_true rfl, Nat.le_of_ble_eq_true rfl⟩ rfl hl.1 rfl (Nat.le_of_ble_eq_true rfl) (hz_le hz1 (by decide)) ddL_law_1252 (fun r4 σ3 H locs hS h => ?_)
  refine lv_istore (lv' := [(7, .int r4), (6, .int r1), (0, .ref b), (1, .ref (ga X 0)), (2, .ref (ga X 25)), (3, .ref (ga X 34)), (4, .ref (ga X 35)), (5, .int x5)]) hx hb ddL_law_1255 hl (by decide) rfl (fun ls hl => ?_)
  refine lv_aload_n hx hb ddL_law_1257 rfl (lv_at hl 4 rfl) ?_
  refine k_VI (As := []) (rest := []) (c_X5_thrown l X h) mf_X5_thrown lk1188 hx hb hml hown ht hK hZ hS hA 25 5 rfl rfl rfl ⟨rfl, rfl⟩ ⟨Nat.le_of_ble_eq_true rfl, Nat.le_of_ble_eq_true rfl⟩ rfl hl.1 rfl (Nat.le_of_ble_eq_true rfl) (hz_le hz1 (by decide)) ddL_law_1258 (fun r6 σ5 H locs hS h => ?_)
  refine lv_iload hx hb ddL_law_1261 (lv_at hl 1 rfl) ?_
  refine lv_icmp_eq (tgt := 1268) hx hb ddL_law_1263 (by decide) (fun c7 => ?_) (fun c7 => ?_)
  · replace h := h.1 c7
    refine lv_iload hx hb ddL_law_1268 (lv_at hl 1 rfl) ?_
    refine lv_if_ne (tgt := 1285) hx hb ddL_law_1270 (by decide) (fun c8 => ?_) (fun c8 => ?_)
    · replace h := h.1 c8
      refine lv_goto (tgt := 2646) hx hb ddL_law_1285 (by decide) ?_
      exact kE _ _ _ _ _ _ ⟨by omega, by omega⟩ hS (lv_sub hl [2, 3, 4, 5, 6, 7] rfl) h
    · replace h := h.2 c8
      refine lv_aload_n hx hb ddL_law_1273 rfl (lv_at hl 5 rfl) ?_
      refine lv_iconst (v := (0 : Int32)) hx hb ddL_law_1274 (by decide) ?_
      refine lald_34 hx hb hK hS ddL_law_1275 ?_
      refine lv_iload hx hb ddL_law_1276 (lv_at hl 0 rfl) ?_
      refine lv_i2l hx hb ddL_law_1278 rfl ?_
      refine W.lcmp hx hb ddL_law_1279 ?_
      refine lv_if_eq (tgt := 1285) hx hb ddL_law_1280 (by decide) (fun c9 => ?_) (fun c9 => ?_)
      · replace h := h.1 c9
        refine lv_goto (tgt := 2646) hx hb ddL_law_1285 (by decide) ?_
        exact kE _ _ _ _ _ _ ⟨by omega, by omega⟩ hS (lv_sub hl [2, 3, 4, 5, 6, 7] rfl) h
      · replace h := h.2 c9
        refine lv_iconst (v := (0 : Int32)) hx hb ddL_law_1283 (by decide) ?_
        exact h.elim
  · replace h := h.2 c7
    refine lv_iconst (v := (0 : Int32)) hx hb ddL_law_1266 (by decide) ?_
    exact h.elim
set_option maxHeartbeats 4000000 in
set_option maxRecDepth 100000 in
theorem lc_20 {p : Program} {l : Launch} {e : Env} {s : State} {m : MethodId} {below : List Frame} {meth : Method} {c : Code} {A : Nat → Prop} {X : GX} {b L : Nat} {xs : Nat → Int32} {Q : State → Prop} (hC : LC l X p s m meth c A b L xs) {x5 a1 a2 a3 a4 : Int32} {σ : Mem} {H : Heap} {locs : List Loc} {ls : Array Slot} {cells slots : Nat} (hj : LJ x5 L xs a1 a2 a3 a4) (hz0 : cells ≤ room_1.cells ∧ slots ≤ room_1.slots) (hz1 : cells + 3 ≤ room_1.cells ∧ slots + 18 ≤ room_1.slots) (hS : WS X A s.heap σ H locs) (hl : lv_has ls 9 [(0, .ref b), (1, .ref (ga X 0)), (2, .ref (ga X 25)), (3, .ref (ga X 34)), (4, .ref (ga X 35)), (5, .int x5)]) {B : Mem → Prop} (h : wplc_20 a1 a2 a3 a4 σ B) (kE : LE p l e s m below meth c A X b x5 Q B cells slots) : W p l e room_1 s m #[Value.ref b] below meth c H locs cells slots Q (F0 m 1288 ls []) := by
  obtain ⟨hx, hb, hml, hown, ht, hK, hZ, hA, hY, hX, hbl, hbA, hfl⟩ := hC
  obtain ⟨hj0, hj1, hj2, hj3, hj4, e1, e2, e3, e4⟩ := hj
  unfold wplc_20 at h
  refine lv_aload_n hx hb ddL_law_1288 rfl (lv_at hl 1 rfl) ?_
  refine lv_aload_n hx hb ddL_law_1289 rfl (lv_at hl 0 rfl) ?_
  refine lv_iload hx hb ddL_law_1290 (lv_at hl 5 rfl) ?_
  refine lv_iconst (v := (1 : Int32)) hx hb ddL_law_1292 (by decide) ?_
  refine lv_iadd hx hb ddL_law_1293 ?_
  refine va_sld hx hb hX hbl hbA hS.2.2 hj1 ddL_law_1294 ?_
  rw [e1]
  refine lv_aload_n hx hb ddL_law_1295 rfl (lv_at hl 3 rfl) ?_
  refine kw_SI (As := [.ref (ga X 0), .int a1, .ref (ga X 34)]) (rest := []) (c_L_mostDutiesBySets l X hfl h) mfw_L_mostDutiesBySets lk712 hx hb hml hown ht hK hZ hS hA hY ⟨rfl, rfl⟩ ⟨Nat.le_of_ble_eq_true rfl, Nat.le_of_ble_eq_true rfl⟩ rfl hl.1 rfl (Nat.le_of_ble_eq_true rfl) (hz_le hz1 (by decide)) ddL_law_1296 (fun r1 σ2 H locs hS h => ?_)
  refine lv_istore (lv' := [(6, .int r1), (0, .ref b), (1, .ref (ga X 0)), (2, .ref (ga X 25)), (3, .ref (ga X 34)), (4, .ref (ga X 35)), (5, .int x5)]) hx hb ddL_law_1299 hl (by decide) rfl (fun ls hl => ?_)
  refine lv_aload_n hx hb ddL_law_1301 rfl (lv_at hl 3 rfl) ?_
  refine lv_aload_n hx hb ddL_law_1302 rfl (lv_at hl 1 rfl) ?_
  refine lv_iload hx hb ddL_law_1303 (lv_at hl 6 rfl) ?_
  refine lv_iconst (v := (1 : Int32)) hx hb ddL_law_1305 (by decide) ?_
  refine lv_iadd hx hb ddL_law_1306 ?_
  refine va_sld hx hb hX hbl hbA hS.2.2 hj1 ddL_law_1307 ?_
  rw [e1]
  refine k_VI (As := [.int a1]) (rest := []) (c_X5_mostDutiesBySets l X h) mf_X5_mostDutiesBySets lk1365 hx hb hml hown ht hK hZ hS hA 25 5 rfl rfl rfl ⟨rfl, rfl⟩ ⟨Nat.le_of_ble_eq_true rfl, Nat.le_of_ble_eq_true rfl⟩ rfl hl.1 rfl (Nat.le_of_ble_eq_true rfl) (hz_le hz1 (by decide)) ddL_law_1308 (fun r4 σ3 H locs hS h => ?_)
  refine lv_istore (lv' := [(7, .int r4), (6, .int r1), (0, .ref b), (1, .ref (ga X 0)), (2, .ref (ga X 25)), (3, .ref (ga X 34)), (4, .ref (ga X 35)), (5, .int x5)]) hx hb ddL_law_1311 hl (by decide) rfl (fun ls hl => ?_)
  refine lv_aload_n hx hb ddL_law_1313 rfl (lv_at hl 4 rfl) ?_
  refine k_VI (As := []) (rest := []) (c_X5_thrown l X h) mf_X5_thrown lk1188 hx hb hml hown ht hK hZ hS hA 25 5 rfl rfl rfl ⟨rfl, rfl⟩ ⟨Nat.le_of_ble_eq_true rfl, Nat.le_of_ble_eq_true rfl⟩ rfl hl.1 rfl (Nat.le_of_ble_eq_true rfl) (hz_le hz1 (by decide)) ddL_law_1314 (fun r6 σ5 H locs hS h => ?_)
  refine lv_iload hx hb ddL_law_1317 (lv_at hl 1 rfl) ?_
  refine lv_icmp_eq (tgt := 1324) hx hb ddL_law_1319 (by decide) (fun c7 => ?_) (fun c7 => ?_)
  · replace h := h.1 c7
    refine lv_iload hx hb ddL_law_1324 (lv_at hl 1 rfl) ?_
    refine lv_if_ne (tgt := 1341) hx hb ddL_law_1326 (by decide) (fun c8 => ?_) (fun c8 => ?_)
    · replace h := h.1 c8
      refine lv_goto (tgt := 2646) hx hb ddL_law_1341 (by decide) ?_
      exact kE _ _ _ _ _ _ ⟨by omega, by omega⟩ hS (lv_sub hl [2, 3, 4, 5, 6, 7] rfl) h
    · replace h := h.2 c8
      refine lv_aload_n hx hb ddL_law_1329 rfl (lv_at hl 5 rfl) ?_
      refine lv_iconst (v := (0 : Int32)) hx hb ddL_law_1330 (by decide) ?_
      refine lald_34 hx hb hK hS ddL_law_1331 ?_
      refine lv_iload hx hb ddL_law_1332 (lv_at hl 0 rfl) ?_
      refine lv_i2l hx hb ddL_law_1334 rfl ?_
      refine W.lcmp hx hb ddL_law_1335 ?_
      refine lv_if_eq (tgt := 1341) hx hb ddL_law_1336 (by decide) (fun c9 => ?_) (fun c9 => ?_)
      · replace h := h.1 c9
        refine lv_goto (tgt := 2646) hx hb ddL_law_1341 (by decide) ?_
        exact kE _ _ _ _ _ _ ⟨by omega, by omega⟩ hS (lv_sub hl [2, 3, 4, 5, 6, 7] rfl) h
      · replace h := h.2 c9
        refine lv_iconst (v := (0 : Int32)) hx hb ddL_law_1339 (by decide) ?_
        exact h.elim
  · replace h := h.2 c7
    refine lv_iconst (v := (0 : Int32)) hx hb ddL_law_1322 (by decide) ?_
    exact h.elim
set_option maxHeartbeats 4000000 in
set_option maxRecDepth 100000 in
theorem lc_21 {p : Program} {l : Launch} {e : Env} {s : State} {m : MethodId} {below : List Frame} {meth : Method} {c : Code} {A : Nat → Prop} {X : GX} {b L : Nat} {xs : Nat → Int32} {Q : State → Prop} (hC : LC l X p s m meth c A b L xs) {x5 a1 a2 a3 a4 : Int32} {σ : Mem} {H : Heap} {locs : List Loc} {ls : Array Slot} {cells slots : Nat} (hj : LJ x5 L xs a1 a2 a3 a4) (hz0 : cells ≤ room_1.cells ∧ slots ≤ room_1.slots) (hz1 : cells + 3 ≤ room_1.cells ∧ slots + 18 ≤ room_1.slots) (hS : WS X A s.heap σ H locs) (hl : lv_has ls 9 [(0, .ref b), (1, .ref (ga X 0)), (2, .ref (ga X 25)), (3, .ref (ga X 34)), (4, .ref (ga X 35)), (5, .int x5)]) {B : Mem → Prop} (h : wplc_21 a1 a2 a3 a4 σ B) (kE : LE p l e s m below meth c A X b x5 Q B cells slots) : W p l e room_1 s m #[Value.ref b] below meth c H locs cells slots Q (F0 m 1344 ls []) := by
  obtain ⟨hx, hb, hml, hown, ht, hK, hZ, hA, hY, hX, hbl, hbA, hfl⟩ := hC
  obtain ⟨hj0, hj1, hj2, hj3, hj4, e1, e2, e3, e4⟩ := hj
  unfold wplc_21 at h
  refine lv_aload_n hx hb ddL_law_1344 rfl (lv_at hl 1 rfl) ?_
  refine lv_aload_n hx hb ddL_law_1345 rfl (lv_at hl 0 rfl) ?_
  refine lv_iload hx hb ddL_law_1346 (lv_at hl 5 rfl) ?_
  refine lv_iconst (v := (1 : Int32)) hx hb ddL_law_1348 (by decide) ?_
  refine lv_iadd hx hb ddL_law_1349 ?_
  refine va_sld hx hb hX hbl hbA hS.2.2 hj1 ddL_law_1350 ?_
  rw [e1]
  refine lv_aload_n hx hb ddL_law_1351 rfl (lv_at hl 3 rfl) ?_
  refine kw_SI (As := [.ref (ga X 0), .int a1, .ref (ga X 34)]) (rest := []) (c_L_nextDuty l X hfl h) mfw_L_nextDuty lk716 hx hb hml hown ht hK hZ hS hA hY ⟨rfl, rfl⟩ ⟨Nat.le_of_ble_eq_true rfl, Nat.le_of_ble_eq_true rfl⟩ rfl hl.1 rfl (Nat.le_of_ble_eq_true rfl) (hz_le hz1 (by decide)) ddL_law_1352 (fun r1 σ2 H locs hS h => ?_)
  refine lv_istore (lv' := [(6, .int r1), (0, .ref b), (1, .ref (ga X 0)), (2, .ref (ga X 25)), (3, .ref (ga X 34)), (4, .ref (ga X 35)), (5, .int x5)]) hx hb ddL_law_1355 hl (by decide) rfl (fun ls hl => ?_)
  refine lv_aload_n hx hb ddL_law_1357 rfl (lv_at hl 3 rfl) ?_
  refine lv_aload_n hx hb ddL_law_1358 rfl (lv_at hl 1 rfl) ?_
  refine lv_iload hx hb ddL_law_1359 (lv_at hl 6 rfl) ?_
  refine lv_iconst (v := (1 : Int32)) hx hb ddL_law_1361 (by decide) ?_
  refine lv_iadd hx hb ddL_law_1362 ?_
  refine va_sld hx hb hX hbl hbA hS.2.2 hj1 ddL_law_1363 ?_
  rw [e1]
  refine k_VI (As := [.int a1]) (rest := []) (c_X5_nextDuty l X h) mf_X5_nextDuty lk1369 hx hb hml hown ht hK hZ hS hA 25 5 rfl rfl rfl ⟨rfl, rfl⟩ ⟨Nat.le_of_ble_eq_true rfl, Nat.le_of_ble_eq_true rfl⟩ rfl hl.1 rfl (Nat.le_of_ble_eq_true rfl) (hz_le hz1 (by decide)) ddL_law_1364 (fun r4 σ3 H locs hS h => ?_)
  refine lv_istore (lv' := [(7, .int r4), (6, .int r1), (0, .ref b), (1, .ref (ga X 0)), (2, .ref (ga X 25)), (3, .ref (ga X 34)), (4, .ref (ga X 35)), (5, .int x5)]) hx hb ddL_law_1367 hl (by decide) rfl (fun ls hl => ?_)
  refine lv_aload_n hx hb ddL_law_1369 rfl (lv_at hl 4 rfl) ?_
  refine k_VI (As := []) (rest := []) (c_X5_thrown l X h) mf_X5_thrown lk1188 hx hb hml hown ht hK hZ hS hA 25 5 rfl rfl rfl ⟨rfl, rfl⟩ ⟨Nat.le_of_ble_eq_true rfl, Nat.le_of_ble_eq_true rfl⟩ rfl hl.1 rfl (Nat.le_of_ble_eq_true rfl) (hz_le hz1 (by decide)) ddL_law_1370 (fun r6 σ5 H locs hS h => ?_)
  refine lv_iload hx hb ddL_law_1373 (lv_at hl 1 rfl) ?_
  refine lv_icmp_eq (tgt := 1380) hx hb ddL_law_1375 (by decide) (fun c7 => ?_) (fun c7 => ?_)
  · replace h := h.1 c7
    refine lv_iload hx hb ddL_law_1380 (lv_at hl 1 rfl) ?_
    refine lv_if_ne (tgt := 1397) hx hb ddL_law_1382 (by decide) (fun c8 => ?_) (fun c8 => ?_)
    · replace h := h.1 c8
      refine lv_goto (tgt := 2646) hx hb ddL_law_1397 (by decide) ?_
      exact kE _ _ _ _ _ _ ⟨by omega, by omega⟩ hS (lv_sub hl [2, 3, 4, 5, 6, 7] rfl) h
    · replace h := h.2 c8
      refine lv_aload_n hx hb ddL_law_1385 rfl (lv_at hl 5 rfl) ?_
      refine lv_iconst (v := (0 : Int32)) hx hb ddL_law_1386 (by decide) ?_
      refine lald_34 hx hb hK hS ddL_law_1387 ?_
      refine lv_iload hx hb ddL_law_1388 (lv_at hl 0 rfl) ?_
      refine lv_i2l hx hb ddL_law_1390 rfl ?_
      refine W.lcmp hx hb ddL_law_1391 ?_
      refine lv_if_eq (tgt := 1397) hx hb ddL_law_1392 (by decide) (fun c9 => ?_) (fun c9 => ?_)
      · replace h := h.1 c9
        refine lv_goto (tgt := 2646) hx hb ddL_law_1397 (by decide) ?_
        exact kE _ _ _ _ _ _ ⟨by omega, by omega⟩ hS (lv_sub hl [2, 3, 4, 5, 6, 7] rfl) h
      · replace h := h.2 c9
        refine lv_iconst (v := (0 : Int32)) hx hb ddL_law_1395 (by decide) ?_
        exact h.elim
  · replace h := h.2 c7
    refine lv_iconst (v := (0 : Int32)) hx hb ddL_law_1378 (by decide) ?_
    exact h.elim
set_option maxHeartbeats 4000000 in
set_option maxRecDepth 100000 in
theorem lc_22 {p : Program} {l : Launch} {e : Env} {s : State} {m : MethodId} {below : List Frame} {meth : Method} {c : Code} {A : Nat → Prop} {X : GX} {b L : Nat} {xs : Nat → Int32} {Q : State → Prop} (hC : LC l X p s m meth c A b L xs) {x5 a1 a2 a3 a4 : Int32} {σ : Mem} {H : Heap} {locs : List Loc} {ls : Array Slot} {cells slots : Nat} (hj : LJ x5 L xs a1 a2 a3 a4) (hz0 : cells ≤ room_1.cells ∧ slots ≤ room_1.slots) (hz1 : cells + 3 ≤ room_1.cells ∧ slots + 18 ≤ room_1.slots) (hS : WS X A s.heap σ H locs) (hl : lv_has ls 9 [(0, .ref b), (1, .ref (ga X 0)), (2, .ref (ga X 25)), (3, .ref (ga X 34)), (4, .ref (ga X 35)), (5, .int x5)]) {B : Mem → Prop} (h : wplc_22 a1 a2 a3 a4 σ B) (kE : LE p l e s m below meth c A X b x5 Q B cells slots) : W p l e room_1 s m #[Value.ref b] below meth c H locs cells slots Q (F0 m 1400 ls []) := by
  obtain ⟨hx, hb, hml, hown, ht, hK, hZ, hA, hY, hX, hbl, hbA, hfl⟩ := hC
  obtain ⟨hj0, hj1, hj2, hj3, hj4, e1, e2, e3, e4⟩ := hj
  unfold wplc_22 at h
  refine lv_aload_n hx hb ddL_law_1400 rfl (lv_at hl 1 rfl) ?_
  refine lv_aload_n hx hb ddL_law_1401 rfl (lv_at hl 0 rfl) ?_
  refine lv_iload hx hb ddL_law_1402 (lv_at hl 5 rfl) ?_
  refine lv_iconst (v := (1 : Int32)) hx hb ddL_law_1404 (by decide) ?_
  refine lv_iadd hx hb ddL_law_1405 ?_
  refine va_sld hx hb hX hbl hbA hS.2.2 hj1 ddL_law_1406 ?_
  rw [e1]
  refine lv_aload_n hx hb ddL_law_1407 rfl (lv_at hl 3 rfl) ?_
  refine kw_SI (As := [.ref (ga X 0), .int a1, .ref (ga X 34)]) (rest := []) (c_L_longestRest l X hfl h) mfw_L_longestRest lk728 hx hb hml hown ht hK hZ hS hA hY ⟨rfl, rfl⟩ ⟨Nat.le_of_ble_eq_true rfl, Nat.le_of_ble_eq_true rfl⟩ rfl hl.1 rfl (Nat.le_of_ble_eq_true rfl) (hz_le hz1 (by decide)) ddL_law_1408 (fun r1 σ2 H locs hS h => ?_)
  refine lv_istore (lv' := [(6, .int r1), (0, .ref b), (1, .ref (ga X 0)), (2, .ref (ga X 25)), (3, .ref (ga X 34)), (4, .ref (ga X 35)), (5, .int x5)]) hx hb ddL_law_1411 hl (by decide) rfl (fun ls hl => ?_)
  refine lv_aload_n hx hb ddL_law_1413 rfl (lv_at hl 3 rfl) ?_
  refine lv_aload_n hx hb ddL_law_1414 rfl (lv_at hl 1 rfl) ?_
  refine lv_iload hx hb ddL_law_1415 (lv_at hl 6 rfl) ?_
  refine lv_iconst (v := (1 : Int32)) hx hb ddL_law_1417 (by decide) ?_
  refine lv_iadd hx hb ddL_law_1418 ?_
  refine va_sld hx hb hX hbl hbA hS.2.2 hj1 ddL_law_1419 ?_
  rw [e1]
  refine k_VI (As := [.int a1]) (rest := []) (c_X5_longestRest l X h) mf_X5_longestRest lk1377 hx hb hml hown ht hK hZ hS hA 25 5 rfl rfl rfl ⟨rfl, rfl⟩ ⟨Nat.le_of_ble_eq_true rfl, Nat.le_of_ble_eq_true rfl⟩ rfl hl.1 rfl (Nat.le_of_ble_eq_true rfl) (hz_le hz1 (by decide)) ddL_law_1420 (fun r4 σ3 H locs hS h => ?_)
  refine lv_istore (lv' := [(7, .int r4), (6, .int r1), (0, .ref b), (1, .ref (ga X 0)), (2, .ref (ga X 25)), (3, .ref (ga X 34)), (4, .ref (ga X 35)), (5, .int x5)]) hx hb ddL_law_1423 hl (by decide) rfl (fun ls hl => ?_)
  refine lv_aload_n hx hb ddL_law_1425 rfl (lv_at hl 4 rfl) ?_
  refine k_VI (As := []) (rest := []) (c_X5_thrown l X h) mf_X5_thrown lk1188 hx hb hml hown ht hK hZ hS hA 25 5 rfl rfl rfl ⟨rfl, rfl⟩ ⟨Nat.le_of_ble_eq_true rfl, Nat.le_of_ble_eq_true rfl⟩ rfl hl.1 rfl (Nat.le_of_ble_eq_true rfl) (hz_le hz1 (by decide)) ddL_law_1426 (fun r6 σ5 H locs hS h => ?_)
  refine lv_iload hx hb ddL_law_1429 (lv_at hl 1 rfl) ?_
  refine lv_icmp_eq (tgt := 1436) hx hb ddL_law_1431 (by decide) (fun c7 => ?_) (fun c7 => ?_)
  · replace h := h.1 c7
    refine lv_iload hx hb ddL_law_1436 (lv_at hl 1 rfl) ?_
    refine lv_if_ne (tgt := 1453) hx hb ddL_law_1438 (by decide) (fun c8 => ?_) (fun c8 => ?_)
    · replace h := h.1 c8
      refine lv_goto (tgt := 2646) hx hb ddL_law_1453 (by decide) ?_
      exact kE _ _ _ _ _ _ ⟨by omega, by omega⟩ hS (lv_sub hl [2, 3, 4, 5, 6, 7] rfl) h
    · replace h := h.2 c8
      refine lv_aload_n hx hb ddL_law_1441 rfl (lv_at hl 5 rfl) ?_
      refine lv_iconst (v := (0 : Int32)) hx hb ddL_law_1442 (by decide) ?_
      refine lald_34 hx hb hK hS ddL_law_1443 ?_
      refine lv_iload hx hb ddL_law_1444 (lv_at hl 0 rfl) ?_
      refine lv_i2l hx hb ddL_law_1446 rfl ?_
      refine W.lcmp hx hb ddL_law_1447 ?_
      refine lv_if_eq (tgt := 1453) hx hb ddL_law_1448 (by decide) (fun c9 => ?_) (fun c9 => ?_)
      · replace h := h.1 c9
        refine lv_goto (tgt := 2646) hx hb ddL_law_1453 (by decide) ?_
        exact kE _ _ _ _ _ _ ⟨by omega, by omega⟩ hS (lv_sub hl [2, 3, 4, 5, 6, 7] rfl) h
      · replace h := h.2 c9
        refine lv_iconst (v := (0 : Int32)) hx hb ddL_law_1451 (by decide) ?_
        exact h.elim
  · replace h := h.2 c7
    refine lv_iconst (v := (0 : Int32)) hx hb ddL_law_1434 (by decide) ?_
    exact h.elim
set_option maxHeartbeats 4000000 in
set_option maxRecDepth 100000 in
theorem lc_23 {p : Program} {l : Launch} {e : Env} {s : State} {m : MethodId} {below : List Frame} {meth : Method} {c : Code} {A : Nat → Prop} {X : GX} {b L : Nat} {xs : Nat → Int32} {Q : State → Prop} (hC : LC l X p s m meth c A b L xs) {x5 a1 a2 a3 a4 : Int32} {σ : Mem} {H : Heap} {locs : List Loc} {ls : Array Slot} {cells slots : Nat} (hj : LJ x5 L xs a1 a2 a3 a4) (hz0 : cells ≤ room_1.cells ∧ slots ≤ room_1.slots) (hz1 : cells + 3 ≤ room_1.cells ∧ slots + 18 ≤ room_1.slots) (hS : WS X A s.heap σ H locs) (hl : lv_has ls 9 [(0, .ref b), (1, .ref (ga X 0)), (2, .ref (ga X 25)), (3, .ref (ga X 34)), (4, .ref (ga X 35)), (5, .int x5)]) {B : Mem → Prop} (h : wplc_23 a1 a2 a3 a4 σ B) (kE : LE p l e s m below meth c A X b x5 Q B cells slots) : W p l e room_1 s m #[Value.ref b] below meth c H locs cells slots Q (F0 m 1456 ls []) := by
  obtain ⟨hx, hb, hml, hown, ht, hK, hZ, hA, hY, hX, hbl, hbA, hfl⟩ := hC
  obtain ⟨hj0, hj1, hj2, hj3, hj4, e1, e2, e3, e4⟩ := hj
  unfold wplc_23 at h
  refine lv_aload_n hx hb ddL_law_1456 rfl (lv_at hl 1 rfl) ?_
  refine lv_aload_n hx hb ddL_law_1457 rfl (lv_at hl 0 rfl) ?_
  refine lv_iload hx hb ddL_law_1458 (lv_at hl 5 rfl) ?_
  refine lv_iconst (v := (1 : Int32)) hx hb ddL_law_1460 (by decide) ?_
  refine lv_iadd hx hb ddL_law_1461 ?_
  refine va_sld hx hb hX hbl hbA hS.2.2 hj1 ddL_law_1462 ?_
  rw [e1]
  refine lv_aload_n hx hb ddL_law_1463 rfl (lv_at hl 3 rfl) ?_
  refine kw_SI (As := [.ref (ga X 0), .int a1, .ref (ga X 34)]) (rest := []) (c_L_guardByDuties l X hfl h) mfw_L_guardByDuties lk739 hx hb hml hown ht hK hZ hS hA hY ⟨rfl, rfl⟩ ⟨Nat.le_of_ble_eq_true rfl, Nat.le_of_ble_eq_true rfl⟩ rfl hl.1 rfl (Nat.le_of_ble_eq_true rfl) (hz_le hz1 (by decide)) ddL_law_1464 (fun r1 σ2 H locs hS h => ?_)
  refine lv_istore (lv' := [(6, .int r1), (0, .ref b), (1, .ref (ga X 0)), (2, .ref (ga X 25)), (3, .ref (ga X 34)), (4, .ref (ga X 35)), (5, .int x5)]) hx hb ddL_law_1467 hl (by decide) rfl (fun ls hl => ?_)
  refine lv_aload_n hx hb ddL_law_1469 rfl (lv_at hl 3 rfl) ?_
  refine lv_aload_n hx hb ddL_law_1470 rfl (lv_at hl 1 rfl) ?_
  refine lv_iload hx hb ddL_law_1471 (lv_at hl 6 rfl) ?_
  refine lv_iconst (v := (1 : Int32)) hx hb ddL_law_1473 (by decide) ?_
  refine lv_iadd hx hb ddL_law_1474 ?_
  refine va_sld hx hb hX hbl hbA hS.2.2 hj1 ddL_law_1475 ?_
  rw [e1]
  refine k_VI (As := [.int a1]) (rest := []) (c_X5_guardByDuties l X h) mf_X5_guardByDuties lk1381 hx hb hml hown ht hK hZ hS hA 25 5 rfl rfl rfl ⟨rfl, rfl⟩ ⟨Nat.le_of_ble_eq_true rfl, Nat.le_of_ble_eq_true rfl⟩ rfl hl.1 rfl (Nat.le_of_ble_eq_true rfl) (hz_le hz1 (by decide)) ddL_law_1476 (fun r4 σ3 H locs hS h => ?_)
  refine lv_istore (lv' := [(7, .int r4), (6, .int r1), (0, .ref b), (1, .ref (ga X 0)), (2, .ref (ga X 25)), (3, .ref (ga X 34)), (4, .ref (ga X 35)), (5, .int x5)]) hx hb ddL_law_1479 hl (by decide) rfl (fun ls hl => ?_)
  refine lv_aload_n hx hb ddL_law_1481 rfl (lv_at hl 4 rfl) ?_
  refine k_VI (As := []) (rest := []) (c_X5_thrown l X h) mf_X5_thrown lk1188 hx hb hml hown ht hK hZ hS hA 25 5 rfl rfl rfl ⟨rfl, rfl⟩ ⟨Nat.le_of_ble_eq_true rfl, Nat.le_of_ble_eq_true rfl⟩ rfl hl.1 rfl (Nat.le_of_ble_eq_true rfl) (hz_le hz1 (by decide)) ddL_law_1482 (fun r6 σ5 H locs hS h => ?_)
  refine lv_iload hx hb ddL_law_1485 (lv_at hl 1 rfl) ?_
  refine lv_icmp_eq (tgt := 1492) hx hb ddL_law_1487 (by decide) (fun c7 => ?_) (fun c7 => ?_)
  · replace h := h.1 c7
    refine lv_iload hx hb ddL_law_1492 (lv_at hl 1 rfl) ?_
    refine lv_if_ne (tgt := 1509) hx hb ddL_law_1494 (by decide) (fun c8 => ?_) (fun c8 => ?_)
    · replace h := h.1 c8
      refine lv_goto (tgt := 2646) hx hb ddL_law_1509 (by decide) ?_
      exact kE _ _ _ _ _ _ ⟨by omega, by omega⟩ hS (lv_sub hl [2, 3, 4, 5, 6, 7] rfl) h
    · replace h := h.2 c8
      refine lv_aload_n hx hb ddL_law_1497 rfl (lv_at hl 5 rfl) ?_
      refine lv_iconst (v := (0 : Int32)) hx hb ddL_law_1498 (by decide) ?_
      refine lald_34 hx hb hK hS ddL_law_1499 ?_
      refine lv_iload hx hb ddL_law_1500 (lv_at hl 0 rfl) ?_
      refine lv_i2l hx hb ddL_law_1502 rfl ?_
      refine W.lcmp hx hb ddL_law_1503 ?_
      refine lv_if_eq (tgt := 1509) hx hb ddL_law_1504 (by decide) (fun c9 => ?_) (fun c9 => ?_)
      · replace h := h.1 c9
        refine lv_goto (tgt := 2646) hx hb ddL_law_1509 (by decide) ?_
        exact kE _ _ _ _ _ _ ⟨by omega, by omega⟩ hS (lv_sub hl [2, 3, 4, 5, 6, 7] rfl) h
      · replace h := h.2 c9
        refine lv_iconst (v := (0 : Int32)) hx hb ddL_law_1507 (by decide) ?_
        exact h.elim
  · replace h := h.2 c7
    refine lv_iconst (v := (0 : Int32)) hx hb ddL_law_1490 (by decide) ?_
    exact h.elim
set_option maxHeartbeats 4000000 in
set_option maxRecDepth 100000 in
theorem lc_24 {p : Program} {l : Launch} {e : Env} {s : State} {m : MethodId} {below : List Frame} {meth : Method} {c : Code} {A : Nat → Prop} {X : GX} {b L : Nat} {xs : Nat → Int32} {Q : State → Prop} (hC : LC l X p s m meth c A b L xs) {x5 a1 a2 a3 a4 : Int32} {σ : Mem} {H : Heap} {locs : List Loc} {ls : Array Slot} {cells slots : Nat} (hj : LJ x5 L xs a1 a2 a3 a4) (hz0 : cells ≤ room_1.cells ∧ slots ≤ room_1.slots) (hz1 : cells + 3 ≤ room_1.cells ∧ slots + 18 ≤ room_1.slots) (hS : WS X A s.heap σ H locs) (hl : lv_has ls 9 [(0, .ref b), (1, .ref (ga X 0)), (2, .ref (ga X 25)), (3, .ref (ga X 34)), (4, .ref (ga X 35)), (5, .int x5)]) {B : Mem → Prop} (h : wplc_24 a1 a2 a3 a4 σ B) (kE : LE p l e s m below meth c A X b x5 Q B cells slots) : W p l e room_1 s m #[Value.ref b] below meth c H locs cells slots Q (F0 m 1512 ls []) := by
  obtain ⟨hx, hb, hml, hown, ht, hK, hZ, hA, hY, hX, hbl, hbA, hfl⟩ := hC
  obtain ⟨hj0, hj1, hj2, hj3, hj4, e1, e2, e3, e4⟩ := hj
  unfold wplc_24 at h
  refine lv_aload_n hx hb ddL_law_1512 rfl (lv_at hl 1 rfl) ?_
  refine lv_aload_n hx hb ddL_law_1513 rfl (lv_at hl 0 rfl) ?_
  refine lv_iload hx hb ddL_law_1514 (lv_at hl 5 rfl) ?_
  refine lv_iconst (v := (1 : Int32)) hx hb ddL_law_1516 (by decide) ?_
  refine lv_iadd hx hb ddL_law_1517 ?_
  refine va_sld hx hb hX hbl hbA hS.2.2 hj1 ddL_law_1518 ?_
  rw [e1]
  refine lv_aload_n hx hb ddL_law_1519 rfl (lv_at hl 0 rfl) ?_
  refine lv_iload hx hb ddL_law_1520 (lv_at hl 5 rfl) ?_
  refine lv_iconst (v := (2 : Int32)) hx hb ddL_law_1522 (by decide) ?_
  refine lv_iadd hx hb ddL_law_1523 ?_
  refine va_sld hx hb hX hbl hbA hS.2.2 hj2 ddL_law_1524 ?_
  rw [e2]
  refine lv_aload_n hx hb ddL_law_1525 rfl (lv_at hl 0 rfl) ?_
  refine lv_iload hx hb ddL_law_1526 (lv_at hl 5 rfl) ?_
  refine lv_iconst (v := (3 : Int32)) hx hb ddL_law_1528 (by decide) ?_
  refine lv_iadd hx hb ddL_law_1529 ?_
  refine va_sld hx hb hX hbl hbA hS.2.2 hj3 ddL_law_1530 ?_
  rw [e3]
  refine lv_aload_n hx hb ddL_law_1531 rfl (lv_at hl 3 rfl) ?_
  refine kw_SI (As := [.ref (ga X 0), .int a1, .int a2, .int a3, .ref (ga X 34)]) (rest := []) (c_L_grantLeave l X hfl h) mfw_L_grantLeave lk755 hx hb hml hown ht hK hZ hS hA hY ⟨rfl, rfl⟩ ⟨Nat.le_of_ble_eq_true rfl, Nat.le_of_ble_eq_true rfl⟩ rfl hl.1 rfl (Nat.le_of_ble_eq_true rfl) (hz_le hz1 (by decide)) ddL_law_1532 (fun r1 σ2 H locs hS h => ?_)
  refine lv_istore (lv' := [(6, .int r1), (0, .ref b), (1, .ref (ga X 0)), (2, .ref (ga X 25)), (3, .ref (ga X 34)), (4, .ref (ga X 35)), (5, .int x5)]) hx hb ddL_law_1535 hl (by decide) rfl (fun ls hl => ?_)
  refine lv_aload_n hx hb ddL_law_1537 rfl (lv_at hl 3 rfl) ?_
  refine lv_aload_n hx hb ddL_law_1538 rfl (lv_at hl 1 rfl) ?_
  refine lv_iload hx hb ddL_law_1539 (lv_at hl 6 rfl) ?_
  refine lv_iconst (v := (1 : Int32)) hx hb ddL_law_1541 (by decide) ?_
  refine lv_iadd hx hb ddL_law_1542 ?_
  refine va_sld hx hb hX hbl hbA hS.2.2 hj1 ddL_law_1543 ?_
  rw [e1]
  refine lv_aload_n hx hb ddL_law_1544 rfl (lv_at hl 1 rfl) ?_
  refine lv_iload hx hb ddL_law_1545 (lv_at hl 6 rfl) ?_
  refine lv_iconst (v := (2 : Int32)) hx hb ddL_law_1547 (by decide) ?_
  refine lv_iadd hx hb ddL_law_1548 ?_
  refine va_sld hx hb hX hbl hbA hS.2.2 hj2 ddL_law_1549 ?_
  rw [e2]
  refine lv_aload_n hx hb ddL_law_1550 rfl (lv_at hl 1 rfl) ?_
  refine lv_iload hx hb ddL_law_1551 (lv_at hl 6 rfl) ?_
  refine lv_iconst (v := (3 : Int32)) hx hb ddL_law_1553 (by decide) ?_
  refine lv_iadd hx hb ddL_law_1554 ?_
  refine va_sld hx hb hX hbl hbA hS.2.2 hj3 ddL_law_1555 ?_
  rw [e3]
  refine k_VI (As := [.int a1, .int a2, .int a3]) (rest := []) (c_X5_grantLeave l X h) mf_X5_grantLeave lk1385 hx hb hml hown ht hK hZ hS hA 25 5 rfl rfl rfl ⟨rfl, rfl⟩ ⟨Nat.le_of_ble_eq_true rfl, Nat.le_of_ble_eq_true rfl⟩ rfl hl.1 rfl (Nat.le_of_ble_eq_true rfl) (hz_le hz1 (by decide)) ddL_law_1556 (fun r4 σ3 H locs hS h => ?_)
  refine lv_istore (lv' := [(7, .int r4), (6, .int r1), (0, .ref b), (1, .ref (ga X 0)), (2, .ref (ga X 25)), (3, .ref (ga X 34)), (4, .ref (ga X 35)), (5, .int x5)]) hx hb ddL_law_1559 hl (by decide) rfl (fun ls hl => ?_)
  refine lv_aload_n hx hb ddL_law_1561 rfl (lv_at hl 4 rfl) ?_
  refine k_VI (As := []) (rest := []) (c_X5_thrown l X h) mf_X5_thrown lk1188 hx hb hml hown ht hK hZ hS hA 25 5 rfl rfl rfl ⟨rfl, rfl⟩ ⟨Nat.le_of_ble_eq_true rfl, Nat.le_of_ble_eq_true rfl⟩ rfl hl.1 rfl (Nat.le_of_ble_eq_true rfl) (hz_le hz1 (by decide)) ddL_law_1562 (fun r6 σ5 H locs hS h => ?_)
  refine lv_iload hx hb ddL_law_1565 (lv_at hl 1 rfl) ?_
  refine lv_icmp_eq (tgt := 1572) hx hb ddL_law_1567 (by decide) (fun c7 => ?_) (fun c7 => ?_)
  · replace h := h.1 c7
    refine lv_iload hx hb ddL_law_1572 (lv_at hl 1 rfl) ?_
    refine lv_if_ne (tgt := 1589) hx hb ddL_law_1574 (by decide) (fun c8 => ?_) (fun c8 => ?_)
    · replace h := h.1 c8
      refine lv_goto (tgt := 2646) hx hb ddL_law_1589 (by decide) ?_
      exact kE _ _ _ _ _ _ ⟨by omega, by omega⟩ hS (lv_sub hl [2, 3, 4, 5, 6, 7] rfl) h
    · replace h := h.2 c8
      refine lv_aload_n hx hb ddL_law_1577 rfl (lv_at hl 5 rfl) ?_
      refine lv_iconst (v := (0 : Int32)) hx hb ddL_law_1578 (by decide) ?_
      refine lald_34 hx hb hK hS ddL_law_1579 ?_
      refine lv_iload hx hb ddL_law_1580 (lv_at hl 0 rfl) ?_
      refine lv_i2l hx hb ddL_law_1582 rfl ?_
      refine W.lcmp hx hb ddL_law_1583 ?_
      refine lv_if_eq (tgt := 1589) hx hb ddL_law_1584 (by decide) (fun c9 => ?_) (fun c9 => ?_)
      · replace h := h.1 c9
        refine lv_goto (tgt := 2646) hx hb ddL_law_1589 (by decide) ?_
        exact kE _ _ _ _ _ _ ⟨by omega, by omega⟩ hS (lv_sub hl [2, 3, 4, 5, 6, 7] rfl) h
      · replace h := h.2 c9
        refine lv_iconst (v := (0 : Int32)) hx hb ddL_law_1587 (by decide) ?_
        exact h.elim
  · replace h := h.2 c7
    refine lv_iconst (v := (0 : Int32)) hx hb ddL_law_1570 (by decide) ?_
    exact h.elim
set_option maxHeartbeats 4000000 in
set_option maxRecDepth 100000 in
theorem lc_25 {p : Program} {l : Launch} {e : Env} {s : State} {m : MethodId} {below : List Frame} {meth : Method} {c : Code} {A : Nat → Prop} {X : GX} {b L : Nat} {xs : Nat → Int32} {Q : State → Prop} (hC : LC l X p s m meth c A b L xs) {x5 a1 a2 a3 a4 : Int32} {σ : Mem} {H : Heap} {locs : List Loc} {ls : Array Slot} {cells slots : Nat} (hj : LJ x5 L xs a1 a2 a3 a4) (hz0 : cells ≤ room_1.cells ∧ slots ≤ room_1.slots) (hz1 : cells + 3 ≤ room_1.cells ∧ slots + 18 ≤ room_1.slots) (hS : WS X A s.heap σ H locs) (hl : lv_has ls 9 [(0, .ref b), (1, .ref (ga X 0)), (2, .ref (ga X 25)), (3, .ref (ga X 34)), (4, .ref (ga X 35)), (5, .int x5)]) {B : Mem → Prop} (h : wplc_25 a1 a2 a3 a4 σ B) (kE : LE p l e s m below meth c A X b x5 Q B cells slots) : W p l e room_1 s m #[Value.ref b] below meth c H locs cells slots Q (F0 m 1592 ls []) := by
  obtain ⟨hx, hb, hml, hown, ht, hK, hZ, hA, hY, hX, hbl, hbA, hfl⟩ := hC
  obtain ⟨hj0, hj1, hj2, hj3, hj4, e1, e2, e3, e4⟩ := hj
  unfold wplc_25 at h
  refine lv_aload_n hx hb ddL_law_1592 rfl (lv_at hl 1 rfl) ?_
  refine lv_aload_n hx hb ddL_law_1593 rfl (lv_at hl 0 rfl) ?_
  refine lv_iload hx hb ddL_law_1594 (lv_at hl 5 rfl) ?_
  refine lv_iconst (v := (1 : Int32)) hx hb ddL_law_1596 (by decide) ?_
  refine lv_iadd hx hb ddL_law_1597 ?_
  refine va_sld hx hb hX hbl hbA hS.2.2 hj1 ddL_law_1598 ?_
  rw [e1]
  refine lv_aload_n hx hb ddL_law_1599 rfl (lv_at hl 0 rfl) ?_
  refine lv_iload hx hb ddL_law_1600 (lv_at hl 5 rfl) ?_
  refine lv_iconst (v := (2 : Int32)) hx hb ddL_law_1602 (by decide) ?_
  refine lv_iadd hx hb ddL_law_1603 ?_
  refine va_sld hx hb hX hbl hbA hS.2.2 hj2 ddL_law_1604 ?_
  rw [e2]
  refine lv_aload_n hx hb ddL_law_1605 rfl (lv_at hl 3 rfl) ?_
  refine kw_SI (As := [.ref (ga X 0), .int a1, .int a2, .ref (ga X 34)]) (rest := []) (c_L_endLeave l X hfl h) mfw_L_endLeave lk779 hx hb hml hown ht hK hZ hS hA hY ⟨rfl, rfl⟩ ⟨Nat.le_of_ble_eq_true rfl, Nat.le_of_ble_eq_true rfl⟩ rfl hl.1 rfl (Nat.le_of_ble_eq_true rfl) (hz_le hz1 (by decide)) ddL_law_1606 (fun r1 σ2 H locs hS h => ?_)
  refine lv_istore (lv' := [(6, .int r1), (0, .ref b), (1, .ref (ga X 0)), (2, .ref (ga X 25)), (3, .ref (ga X 34)), (4, .ref (ga X 35)), (5, .int x5)]) hx hb ddL_law_1609 hl (by decide) rfl (fun ls hl => ?_)
  refine lv_aload_n hx hb ddL_law_1611 rfl (lv_at hl 3 rfl) ?_
  refine lv_aload_n hx hb ddL_law_1612 rfl (lv_at hl 1 rfl) ?_
  refine lv_iload hx hb ddL_law_1613 (lv_at hl 6 rfl) ?_
  refine lv_iconst (v := (1 : Int32)) hx hb ddL_law_1615 (by decide) ?_
  refine lv_iadd hx hb ddL_law_1616 ?_
  refine va_sld hx hb hX hbl hbA hS.2.2 hj1 ddL_law_1617 ?_
  rw [e1]
  refine lv_aload_n hx hb ddL_law_1618 rfl (lv_at hl 1 rfl) ?_
  refine lv_iload hx hb ddL_law_1619 (lv_at hl 6 rfl) ?_
  refine lv_iconst (v := (2 : Int32)) hx hb ddL_law_1621 (by decide) ?_
  refine lv_iadd hx hb ddL_law_1622 ?_
  refine va_sld hx hb hX hbl hbA hS.2.2 hj2 ddL_law_1623 ?_
  rw [e2]
  refine k_VI (As := [.int a1, .int a2]) (rest := []) (c_X5_endLeave l X h) mf_X5_endLeave lk1392 hx hb hml hown ht hK hZ hS hA 25 5 rfl rfl rfl ⟨rfl, rfl⟩ ⟨Nat.le_of_ble_eq_true rfl, Nat.le_of_ble_eq_true rfl⟩ rfl hl.1 rfl (Nat.le_of_ble_eq_true rfl) (hz_le hz1 (by decide)) ddL_law_1624 (fun r4 σ3 H locs hS h => ?_)
  refine lv_istore (lv' := [(7, .int r4), (6, .int r1), (0, .ref b), (1, .ref (ga X 0)), (2, .ref (ga X 25)), (3, .ref (ga X 34)), (4, .ref (ga X 35)), (5, .int x5)]) hx hb ddL_law_1627 hl (by decide) rfl (fun ls hl => ?_)
  refine lv_aload_n hx hb ddL_law_1629 rfl (lv_at hl 4 rfl) ?_
  refine k_VI (As := []) (rest := []) (c_X5_thrown l X h) mf_X5_thrown lk1188 hx hb hml hown ht hK hZ hS hA 25 5 rfl rfl rfl ⟨rfl, rfl⟩ ⟨Nat.le_of_ble_eq_true rfl, Nat.le_of_ble_eq_true rfl⟩ rfl hl.1 rfl (Nat.le_of_ble_eq_true rfl) (hz_le hz1 (by decide)) ddL_law_1630 (fun r6 σ5 H locs hS h => ?_)
  refine lv_iload hx hb ddL_law_1633 (lv_at hl 1 rfl) ?_
  refine lv_icmp_eq (tgt := 1640) hx hb ddL_law_1635 (by decide) (fun c7 => ?_) (fun c7 => ?_)
  · replace h := h.1 c7
    refine lv_iload hx hb ddL_law_1640 (lv_at hl 1 rfl) ?_
    refine lv_if_ne (tgt := 1657) hx hb ddL_law_1642 (by decide) (fun c8 => ?_) (fun c8 => ?_)
    · replace h := h.1 c8
      refine lv_goto (tgt := 2646) hx hb ddL_law_1657 (by decide) ?_
      exact kE _ _ _ _ _ _ ⟨by omega, by omega⟩ hS (lv_sub hl [2, 3, 4, 5, 6, 7] rfl) h
    · replace h := h.2 c8
      refine lv_aload_n hx hb ddL_law_1645 rfl (lv_at hl 5 rfl) ?_
      refine lv_iconst (v := (0 : Int32)) hx hb ddL_law_1646 (by decide) ?_
      refine lald_34 hx hb hK hS ddL_law_1647 ?_
      refine lv_iload hx hb ddL_law_1648 (lv_at hl 0 rfl) ?_
      refine lv_i2l hx hb ddL_law_1650 rfl ?_
      refine W.lcmp hx hb ddL_law_1651 ?_
      refine lv_if_eq (tgt := 1657) hx hb ddL_law_1652 (by decide) (fun c9 => ?_) (fun c9 => ?_)
      · replace h := h.1 c9
        refine lv_goto (tgt := 2646) hx hb ddL_law_1657 (by decide) ?_
        exact kE _ _ _ _ _ _ ⟨by omega, by omega⟩ hS (lv_sub hl [2, 3, 4, 5, 6, 7] rfl) h
      · replace h := h.2 c9
        refine lv_iconst (v := (0 : Int32)) hx hb ddL_law_1655 (by decide) ?_
        exact h.elim
  · replace h := h.2 c7
    refine lv_iconst (v := (0 : Int32)) hx hb ddL_law_1638 (by decide) ?_
    exact h.elim
set_option maxHeartbeats 4000000 in
set_option maxRecDepth 100000 in
theorem lc_26 {p : Program} {l : Launch} {e : Env} {s : State} {m : MethodId} {below : List Frame} {meth : Method} {c : Code} {A : Nat → Prop} {X : GX} {b L : Nat} {xs : Nat → Int32} {Q : State → Prop} (hC : LC l X p s m meth c A b L xs) {x5 a1 a2 a3 a4 : Int32} {σ : Mem} {H : Heap} {locs : List Loc} {ls : Array Slot} {cells slots : Nat} (hj : LJ x5 L xs a1 a2 a3 a4) (hz0 : cells ≤ room_1.cells ∧ slots ≤ room_1.slots) (hz1 : cells + 3 ≤ room_1.cells ∧ slots + 18 ≤ room_1.slots) (hS : WS X A s.heap σ H locs) (hl : lv_has ls 9 [(0, .ref b), (1, .ref (ga X 0)), (2, .ref (ga X 25)), (3, .ref (ga X 34)), (4, .ref (ga X 35)), (5, .int x5)]) {B : Mem → Prop} (h : wplc_26 a1 a2 a3 a4 σ B) (kE : LE p l e s m below meth c A X b x5 Q B cells slots) : W p l e room_1 s m #[Value.ref b] below meth c H locs cells slots Q (F0 m 1660 ls []) := by
  obtain ⟨hx, hb, hml, hown, ht, hK, hZ, hA, hY, hX, hbl, hbA, hfl⟩ := hC
  obtain ⟨hj0, hj1, hj2, hj3, hj4, e1, e2, e3, e4⟩ := hj
  unfold wplc_26 at h
  refine lv_aload_n hx hb ddL_law_1660 rfl (lv_at hl 1 rfl) ?_
  refine lv_aload_n hx hb ddL_law_1661 rfl (lv_at hl 0 rfl) ?_
  refine lv_iload hx hb ddL_law_1662 (lv_at hl 5 rfl) ?_
  refine lv_iconst (v := (1 : Int32)) hx hb ddL_law_1664 (by decide) ?_
  refine lv_iadd hx hb ddL_law_1665 ?_
  refine va_sld hx hb hX hbl hbA hS.2.2 hj1 ddL_law_1666 ?_
  rw [e1]
  refine lv_aload_n hx hb ddL_law_1667 rfl (lv_at hl 0 rfl) ?_
  refine lv_iload hx hb ddL_law_1668 (lv_at hl 5 rfl) ?_
  refine lv_iconst (v := (2 : Int32)) hx hb ddL_law_1670 (by decide) ?_
  refine lv_iadd hx hb ddL_law_1671 ?_
  refine va_sld hx hb hX hbl hbA hS.2.2 hj2 ddL_law_1672 ?_
  rw [e2]
  refine lv_aload_n hx hb ddL_law_1673 rfl (lv_at hl 3 rfl) ?_
  refine kw_SI (As := [.ref (ga X 0), .int a1, .int a2, .ref (ga X 34)]) (rest := []) (c_L_isOnLeave l X hfl h) mfw_L_isOnLeave lk793 hx hb hml hown ht hK hZ hS hA hY ⟨rfl, rfl⟩ ⟨Nat.le_of_ble_eq_true rfl, Nat.le_of_ble_eq_true rfl⟩ rfl hl.1 rfl (Nat.le_of_ble_eq_true rfl) (hz_le hz1 (by decide)) ddL_law_1674 (fun r1 σ2 H locs hS h => ?_)
  refine lv_istore (lv' := [(6, .int r1), (0, .ref b), (1, .ref (ga X 0)), (2, .ref (ga X 25)), (3, .ref (ga X 34)), (4, .ref (ga X 35)), (5, .int x5)]) hx hb ddL_law_1677 hl (by decide) rfl (fun ls hl => ?_)
  refine lv_aload_n hx hb ddL_law_1679 rfl (lv_at hl 3 rfl) ?_
  refine lv_aload_n hx hb ddL_law_1680 rfl (lv_at hl 1 rfl) ?_
  refine lv_iload hx hb ddL_law_1681 (lv_at hl 6 rfl) ?_
  refine lv_iconst (v := (1 : Int32)) hx hb ddL_law_1683 (by decide) ?_
  refine lv_iadd hx hb ddL_law_1684 ?_
  refine va_sld hx hb hX hbl hbA hS.2.2 hj1 ddL_law_1685 ?_
  rw [e1]
  refine lv_aload_n hx hb ddL_law_1686 rfl (lv_at hl 1 rfl) ?_
  refine lv_iload hx hb ddL_law_1687 (lv_at hl 6 rfl) ?_
  refine lv_iconst (v := (2 : Int32)) hx hb ddL_law_1689 (by decide) ?_
  refine lv_iadd hx hb ddL_law_1690 ?_
  refine va_sld hx hb hX hbl hbA hS.2.2 hj2 ddL_law_1691 ?_
  rw [e2]
  refine k_VI (As := [.int a1, .int a2]) (rest := []) (c_X5_isOnLeave l X h) mf_X5_isOnLeave lk1396 hx hb hml hown ht hK hZ hS hA 25 5 rfl rfl rfl ⟨rfl, rfl⟩ ⟨Nat.le_of_ble_eq_true rfl, Nat.le_of_ble_eq_true rfl⟩ rfl hl.1 rfl (Nat.le_of_ble_eq_true rfl) (hz_le hz1 (by decide)) ddL_law_1692 (fun r4 σ3 H locs hS h => ?_)
  refine lv_istore (lv' := [(7, .int r4), (6, .int r1), (0, .ref b), (1, .ref (ga X 0)), (2, .ref (ga X 25)), (3, .ref (ga X 34)), (4, .ref (ga X 35)), (5, .int x5)]) hx hb ddL_law_1695 hl (by decide) rfl (fun ls hl => ?_)
  refine lv_aload_n hx hb ddL_law_1697 rfl (lv_at hl 4 rfl) ?_
  refine k_VI (As := []) (rest := []) (c_X5_thrown l X h) mf_X5_thrown lk1188 hx hb hml hown ht hK hZ hS hA 25 5 rfl rfl rfl ⟨rfl, rfl⟩ ⟨Nat.le_of_ble_eq_true rfl, Nat.le_of_ble_eq_true rfl⟩ rfl hl.1 rfl (Nat.le_of_ble_eq_true rfl) (hz_le hz1 (by decide)) ddL_law_1698 (fun r6 σ5 H locs hS h => ?_)
  refine lv_iload hx hb ddL_law_1701 (lv_at hl 1 rfl) ?_
  refine lv_icmp_eq (tgt := 1708) hx hb ddL_law_1703 (by decide) (fun c7 => ?_) (fun c7 => ?_)
  · replace h := h.1 c7
    refine lv_iload hx hb ddL_law_1708 (lv_at hl 1 rfl) ?_
    refine lv_if_ne (tgt := 1732) hx hb ddL_law_1710 (by decide) (fun c8 => ?_) (fun c8 => ?_)
    · replace h := h.1 c8
      refine lv_goto (tgt := 2646) hx hb ddL_law_1732 (by decide) ?_
      exact kE _ _ _ _ _ _ ⟨by omega, by omega⟩ hS (lv_sub hl [2, 3, 4, 5, 6, 7] rfl) h
    · replace h := h.2 c8
      refine lv_aload_n hx hb ddL_law_1713 rfl (lv_at hl 5 rfl) ?_
      refine lv_iconst (v := (0 : Int32)) hx hb ddL_law_1714 (by decide) ?_
      refine lald_34 hx hb hK hS ddL_law_1715 ?_
      refine lv_iload hx hb ddL_law_1716 (lv_at hl 0 rfl) ?_
      refine lv_if_eq (tgt := 1725) hx hb ddL_law_1718 (by decide) (fun c9 => ?_) (fun c9 => ?_)
      · replace h := h.1 c9
        refine lv_lconst (v := (0 : Int32).toInt64) hx hb ddL_law_1725 (by decide) ?_
        refine W.lcmp hx hb ddL_law_1726 ?_
        refine lv_if_eq (tgt := 1732) hx hb ddL_law_1727 (by decide) (fun c10 => ?_) (fun c10 => ?_)
        · replace h := h.1 c10
          refine lv_goto (tgt := 2646) hx hb ddL_law_1732 (by decide) ?_
          exact kE _ _ _ _ _ _ ⟨by omega, by omega⟩ hS (lv_sub hl [2, 3, 4, 5, 6, 7] rfl) h
        · replace h := h.2 c10
          refine lv_iconst (v := (0 : Int32)) hx hb ddL_law_1730 (by decide) ?_
          exact h.elim
      · replace h := h.2 c9
        refine lv_lconst (v := (1 : Int32).toInt64) hx hb ddL_law_1721 (by decide) ?_
        refine lv_goto (tgt := 1726) hx hb ddL_law_1722 (by decide) ?_
        refine W.lcmp hx hb ddL_law_1726 ?_
        refine lv_if_eq (tgt := 1732) hx hb ddL_law_1727 (by decide) (fun c11 => ?_) (fun c11 => ?_)
        · replace h := h.1 c11
          refine lv_goto (tgt := 2646) hx hb ddL_law_1732 (by decide) ?_
          exact kE _ _ _ _ _ _ ⟨by omega, by omega⟩ hS (lv_sub hl [2, 3, 4, 5, 6, 7] rfl) h
        · replace h := h.2 c11
          refine lv_iconst (v := (0 : Int32)) hx hb ddL_law_1730 (by decide) ?_
          exact h.elim
  · replace h := h.2 c7
    refine lv_iconst (v := (0 : Int32)) hx hb ddL_law_1706 (by decide) ?_
    exact h.elim
set_option maxHeartbeats 4000000 in
set_option maxRecDepth 100000 in
theorem lc_27 {p : Program} {l : Launch} {e : Env} {s : State} {m : MethodId} {below : List Frame} {meth : Method} {c : Code} {A : Nat → Prop} {X : GX} {b L : Nat} {xs : Nat → Int32} {Q : State → Prop} (hC : LC l X p s m meth c A b L xs) {x5 a1 a2 a3 a4 : Int32} {σ : Mem} {H : Heap} {locs : List Loc} {ls : Array Slot} {cells slots : Nat} (hj : LJ x5 L xs a1 a2 a3 a4) (hz0 : cells ≤ room_1.cells ∧ slots ≤ room_1.slots) (hz1 : cells + 3 ≤ room_1.cells ∧ slots + 18 ≤ room_1.slots) (hS : WS X A s.heap σ H locs) (hl : lv_has ls 9 [(0, .ref b), (1, .ref (ga X 0)), (2, .ref (ga X 25)), (3, .ref (ga X 34)), (4, .ref (ga X 35)), (5, .int x5)]) {B : Mem → Prop} (h : wplc_27 a1 a2 a3 a4 σ B) (kE : LE p l e s m below meth c A X b x5 Q B cells slots) : W p l e room_1 s m #[Value.ref b] below meth c H locs cells slots Q (F0 m 1735 ls []) := by
  obtain ⟨hx, hb, hml, hown, ht, hK, hZ, hA, hY, hX, hbl, hbA, hfl⟩ := hC
  obtain ⟨hj0, hj1, hj2, hj3, hj4, e1, e2, e3, e4⟩ := hj
  unfold wplc_27 at h
  refine lv_aload_n hx hb ddL_law_1735 rfl (lv_at hl 1 rfl) ?_
  refine lv_aload_n hx hb ddL_law_1736 rfl (lv_at hl 0 rfl) ?_
  refine lv_iload hx hb ddL_law_1737 (lv_at hl 5 rfl) ?_
  refine lv_iconst (v := (1 : Int32)) hx hb ddL_law_1739 (by decide) ?_
  refine lv_iadd hx hb ddL_law_1740 ?_
  refine va_sld hx hb hX hbl hbA hS.2.2 hj1 ddL_law_1741 ?_
  rw [e1]
  refine lv_aload_n hx hb ddL_law_1742 rfl (lv_at hl 3 rfl) ?_
  refine kw_SI (As := [.ref (ga X 0), .int a1, .ref (ga X 34)]) (rest := []) (c_L_leaveSlots l X hfl h) mfw_L_leaveSlots lk800 hx hb hml hown ht hK hZ hS hA hY ⟨rfl, rfl⟩ ⟨Nat.le_of_ble_eq_true rfl, Nat.le_of_ble_eq_true rfl⟩ rfl hl.1 rfl (Nat.le_of_ble_eq_true rfl) (hz_le hz1 (by decide)) ddL_law_1743 (fun r1 σ2 H locs hS h => ?_)
  refine lv_istore (lv' := [(6, .int r1), (0, .ref b), (1, .ref (ga X 0)), (2, .ref (ga X 25)), (3, .ref (ga X 34)), (4, .ref (ga X 35)), (5, .int x5)]) hx hb ddL_law_1746 hl (by decide) rfl (fun ls hl => ?_)
  refine lv_aload_n hx hb ddL_law_1748 rfl (lv_at hl 3 rfl) ?_
  refine lv_aload_n hx hb ddL_law_1749 rfl (lv_at hl 1 rfl) ?_
  refine lv_iload hx hb ddL_law_1750 (lv_at hl 6 rfl) ?_
  refine lv_iconst (v := (1 : Int32)) hx hb ddL_law_1752 (by decide) ?_
  refine lv_iadd hx hb ddL_law_1753 ?_
  refine va_sld hx hb hX hbl hbA hS.2.2 hj1 ddL_law_1754 ?_
  rw [e1]
  refine k_VI (As := [.int a1]) (rest := []) (c_X5_leaveSlots l X h) mf_X5_leaveSlots lk1400 hx hb hml hown ht hK hZ hS hA 25 5 rfl rfl rfl ⟨rfl, rfl⟩ ⟨Nat.le_of_ble_eq_true rfl, Nat.le_of_ble_eq_true rfl⟩ rfl hl.1 rfl (Nat.le_of_ble_eq_true rfl) (hz_le hz1 (by decide)) ddL_law_1755 (fun r4 σ3 H locs hS h => ?_)
  refine lv_istore (lv' := [(7, .int r4), (6, .int r1), (0, .ref b), (1, .ref (ga X 0)), (2, .ref (ga X 25)), (3, .ref (ga X 34)), (4, .ref (ga X 35)), (5, .int x5)]) hx hb ddL_law_1758 hl (by decide) rfl (fun ls hl => ?_)
  refine lv_aload_n hx hb ddL_law_1760 rfl (lv_at hl 4 rfl) ?_
  refine k_VI (As := []) (rest := []) (c_X5_thrown l X h) mf_X5_thrown lk1188 hx hb hml hown ht hK hZ hS hA 25 5 rfl rfl rfl ⟨rfl, rfl⟩ ⟨Nat.le_of_ble_eq_true rfl, Nat.le_of_ble_eq_true rfl⟩ rfl hl.1 rfl (Nat.le_of_ble_eq_true rfl) (hz_le hz1 (by decide)) ddL_law_1761 (fun r6 σ5 H locs hS h => ?_)
  refine lv_iload hx hb ddL_law_1764 (lv_at hl 1 rfl) ?_
  refine lv_icmp_eq (tgt := 1771) hx hb ddL_law_1766 (by decide) (fun c7 => ?_) (fun c7 => ?_)
  · replace h := h.1 c7
    refine lv_iload hx hb ddL_law_1771 (lv_at hl 1 rfl) ?_
    refine lv_if_ne (tgt := 1788) hx hb ddL_law_1773 (by decide) (fun c8 => ?_) (fun c8 => ?_)
    · replace h := h.1 c8
      refine lv_goto (tgt := 2646) hx hb ddL_law_1788 (by decide) ?_
      exact kE _ _ _ _ _ _ ⟨by omega, by omega⟩ hS (lv_sub hl [2, 3, 4, 5, 6, 7] rfl) h
    · replace h := h.2 c8
      refine lv_aload_n hx hb ddL_law_1776 rfl (lv_at hl 5 rfl) ?_
      refine lv_iconst (v := (0 : Int32)) hx hb ddL_law_1777 (by decide) ?_
      refine lald_34 hx hb hK hS ddL_law_1778 ?_
      refine lv_iload hx hb ddL_law_1779 (lv_at hl 0 rfl) ?_
      refine lv_i2l hx hb ddL_law_1781 rfl ?_
      refine W.lcmp hx hb ddL_law_1782 ?_
      refine lv_if_eq (tgt := 1788) hx hb ddL_law_1783 (by decide) (fun c9 => ?_) (fun c9 => ?_)
      · replace h := h.1 c9
        refine lv_goto (tgt := 2646) hx hb ddL_law_1788 (by decide) ?_
        exact kE _ _ _ _ _ _ ⟨by omega, by omega⟩ hS (lv_sub hl [2, 3, 4, 5, 6, 7] rfl) h
      · replace h := h.2 c9
        refine lv_iconst (v := (0 : Int32)) hx hb ddL_law_1786 (by decide) ?_
        exact h.elim
  · replace h := h.2 c7
    refine lv_iconst (v := (0 : Int32)) hx hb ddL_law_1769 (by decide) ?_
    exact h.elim
set_option maxHeartbeats 4000000 in
set_option maxRecDepth 100000 in
theorem lc_28 {p : Program} {l : Launch} {e : Env} {s : State} {m : MethodId} {below : List Frame} {meth : Method} {c : Code} {A : Nat → Prop} {X : GX} {b L : Nat} {xs : Nat → Int32} {Q : State → Prop} (hC : LC l X p s m meth c A b L xs) {x5 a1 a2 a3 a4 : Int32} {σ : Mem} {H : Heap} {locs : List Loc} {ls : Array Slot} {cells slots : Nat} (hj : LJ x5 L xs a1 a2 a3 a4) (hz0 : cells ≤ room_1.cells ∧ slots ≤ room_1.slots) (hz1 : cells + 3 ≤ room_1.cells ∧ slots + 18 ≤ room_1.slots) (hS : WS X A s.heap σ H locs) (hl : lv_has ls 9 [(0, .ref b), (1, .ref (ga X 0)), (2, .ref (ga X 25)), (3, .ref (ga X 34)), (4, .ref (ga X 35)), (5, .int x5)]) {B : Mem → Prop} (h : wplc_28 a1 a2 a3 a4 σ B) (kE : LE p l e s m below meth c A X b x5 Q B cells slots) : W p l e room_1 s m #[Value.ref b] below meth c H locs cells slots Q (F0 m 1791 ls []) := by
  obtain ⟨hx, hb, hml, hown, ht, hK, hZ, hA, hY, hX, hbl, hbA, hfl⟩ := hC
  obtain ⟨hj0, hj1, hj2, hj3, hj4, e1, e2, e3, e4⟩ := hj
  unfold wplc_28 at h
  refine lv_aload_n hx hb ddL_law_1791 rfl (lv_at hl 1 rfl) ?_
  refine lv_aload_n hx hb ddL_law_1792 rfl (lv_at hl 0 rfl) ?_
  refine lv_iload hx hb ddL_law_1793 (lv_at hl 5 rfl) ?_
  refine lv_iconst (v := (1 : Int32)) hx hb ddL_law_1795 (by decide) ?_
  refine lv_iadd hx hb ddL_law_1796 ?_
  refine va_sld hx hb hX hbl hbA hS.2.2 hj1 ddL_law_1797 ?_
  rw [e1]
  refine lv_aload_n hx hb ddL_law_1798 rfl (lv_at hl 3 rfl) ?_
  refine kw_SI (As := [.ref (ga X 0), .int a1, .ref (ga X 34)]) (rest := []) (c_L_addRations l X hfl h) mfw_L_addRations lk807 hx hb hml hown ht hK hZ hS hA hY ⟨rfl, rfl⟩ ⟨Nat.le_of_ble_eq_true rfl, Nat.le_of_ble_eq_true rfl⟩ rfl hl.1 rfl (Nat.le_of_ble_eq_true rfl) (hz_le hz1 (by decide)) ddL_law_1799 (fun r1 σ2 H locs hS h => ?_)
  refine lv_istore (lv' := [(6, .int r1), (0, .ref b), (1, .ref (ga X 0)), (2, .ref (ga X 25)), (3, .ref (ga X 34)), (4, .ref (ga X 35)), (5, .int x5)]) hx hb ddL_law_1802 hl (by decide) rfl (fun ls hl => ?_)
  refine lv_aload_n hx hb ddL_law_1804 rfl (lv_at hl 3 rfl) ?_
  refine lv_aload_n hx hb ddL_law_1805 rfl (lv_at hl 1 rfl) ?_
  refine lv_iload hx hb ddL_law_1806 (lv_at hl 6 rfl) ?_
  refine lv_iconst (v := (1 : Int32)) hx hb ddL_law_1808 (by decide) ?_
  refine lv_iadd hx hb ddL_law_1809 ?_
  refine va_sld hx hb hX hbl hbA hS.2.2 hj1 ddL_law_1810 ?_
  rw [e1]
  refine k_VI (As := [.int a1]) (rest := []) (c_X5_addRations l X h) mf_X5_addRations lk1404 hx hb hml hown ht hK hZ hS hA 25 5 rfl rfl rfl ⟨rfl, rfl⟩ ⟨Nat.le_of_ble_eq_true rfl, Nat.le_of_ble_eq_true rfl⟩ rfl hl.1 rfl (Nat.le_of_ble_eq_true rfl) (hz_le hz1 (by decide)) ddL_law_1811 (fun r4 σ3 H locs hS h => ?_)
  refine lv_istore (lv' := [(7, .int r4), (6, .int r1), (0, .ref b), (1, .ref (ga X 0)), (2, .ref (ga X 25)), (3, .ref (ga X 34)), (4, .ref (ga X 35)), (5, .int x5)]) hx hb ddL_law_1814 hl (by decide) rfl (fun ls hl => ?_)
  refine lv_aload_n hx hb ddL_law_1816 rfl (lv_at hl 4 rfl) ?_
  refine k_VI (As := []) (rest := []) (c_X5_thrown l X h) mf_X5_thrown lk1188 hx hb hml hown ht hK hZ hS hA 25 5 rfl rfl rfl ⟨rfl, rfl⟩ ⟨Nat.le_of_ble_eq_true rfl, Nat.le_of_ble_eq_true rfl⟩ rfl hl.1 rfl (Nat.le_of_ble_eq_true rfl) (hz_le hz1 (by decide)) ddL_law_1817 (fun r6 σ5 H locs hS h => ?_)
  refine lv_iload hx hb ddL_law_1820 (lv_at hl 1 rfl) ?_
  refine lv_icmp_eq (tgt := 1827) hx hb ddL_law_1822 (by decide) (fun c7 => ?_) (fun c7 => ?_)
  · replace h := h.1 c7
    refine lv_iload hx hb ddL_law_1827 (lv_at hl 1 rfl) ?_
    refine lv_if_ne (tgt := 1844) hx hb ddL_law_1829 (by decide) (fun c8 => ?_) (fun c8 => ?_)
    · replace h := h.1 c8
      refine lv_goto (tgt := 2646) hx hb ddL_law_1844 (by decide) ?_
      exact kE _ _ _ _ _ _ ⟨by omega, by omega⟩ hS (lv_sub hl [2, 3, 4, 5, 6, 7] rfl) h
    · replace h := h.2 c8
      refine lv_aload_n hx hb ddL_law_1832 rfl (lv_at hl 5 rfl) ?_
      refine lv_iconst (v := (0 : Int32)) hx hb ddL_law_1833 (by decide) ?_
      refine lald_34 hx hb hK hS ddL_law_1834 ?_
      refine lv_iload hx hb ddL_law_1835 (lv_at hl 0 rfl) ?_
      refine lv_i2l hx hb ddL_law_1837 rfl ?_
      refine W.lcmp hx hb ddL_law_1838 ?_
      refine lv_if_eq (tgt := 1844) hx hb ddL_law_1839 (by decide) (fun c9 => ?_) (fun c9 => ?_)
      · replace h := h.1 c9
        refine lv_goto (tgt := 2646) hx hb ddL_law_1844 (by decide) ?_
        exact kE _ _ _ _ _ _ ⟨by omega, by omega⟩ hS (lv_sub hl [2, 3, 4, 5, 6, 7] rfl) h
      · replace h := h.2 c9
        refine lv_iconst (v := (0 : Int32)) hx hb ddL_law_1842 (by decide) ?_
        exact h.elim
  · replace h := h.2 c7
    refine lv_iconst (v := (0 : Int32)) hx hb ddL_law_1825 (by decide) ?_
    exact h.elim
set_option maxHeartbeats 4000000 in
set_option maxRecDepth 100000 in
theorem lc_29 {p : Program} {l : Launch} {e : Env} {s : State} {m : MethodId} {below : List Frame} {meth : Method} {c : Code} {A : Nat → Prop} {X : GX} {b L : Nat} {xs : Nat → Int32} {Q : State → Prop} (hC : LC l X p s m meth c A b L xs) {x5 a1 a2 a3 a4 : Int32} {σ : Mem} {H : Heap} {locs : List Loc} {ls : Array Slot} {cells slots : Nat} (hj : LJ x5 L xs a1 a2 a3 a4) (hz0 : cells ≤ room_1.cells ∧ slots ≤ room_1.slots) (hz1 : cells + 3 ≤ room_1.cells ∧ slots + 18 ≤ room_1.slots) (hS : WS X A s.heap σ H locs) (hl : lv_has ls 9 [(0, .ref b), (1, .ref (ga X 0)), (2, .ref (ga X 25)), (3, .ref (ga X 34)), (4, .ref (ga X 35)), (5, .int x5)]) {B : Mem → Prop} (h : wplc_29 a1 a2 a3 a4 σ B) (kE : LE p l e s m below meth c A X b x5 Q B cells slots) : W p l e room_1 s m #[Value.ref b] below meth c H locs cells slots Q (F0 m 1847 ls []) := by
  obtain ⟨hx, hb, hml, hown, ht, hK, hZ, hA, hY, hX, hbl, hbA, hfl⟩ := hC
  obtain ⟨hj0, hj1, hj2, hj3, hj4, e1, e2, e3, e4⟩ := hj
  unfold wplc_29 at h
  refine lv_aload_n hx hb ddL_law_1847 rfl (lv_at hl 1 rfl) ?_
  refine lv_aload_n hx hb ddL_law_1848 rfl (lv_at hl 0 rfl) ?_
  refine lv_iload hx hb ddL_law_1849 (lv_at hl 5 rfl) ?_
  refine lv_iconst (v := (1 : Int32)) hx hb ddL_law_1851 (by decide) ?_
  refine lv_iadd hx hb ddL_law_1852 ?_
  refine va_sld hx hb hX hbl hbA hS.2.2 hj1 ddL_law_1853 ?_
  rw [e1]
  refine lv_aload_n hx hb ddL_law_1854 rfl (lv_at hl 3 rfl) ?_
  refine kw_SI (As := [.ref (ga X 0), .int a1, .ref (ga X 34)]) (rest := []) (c_L_passSlots l X hfl h) mfw_L_passSlots lk822 hx hb hml hown ht hK hZ hS hA hY ⟨rfl, rfl⟩ ⟨Nat.le_of_ble_eq_true rfl, Nat.le_of_ble_eq_true rfl⟩ rfl hl.1 rfl (Nat.le_of_ble_eq_true rfl) (hz_le hz1 (by decide)) ddL_law_1855 (fun r1 σ2 H locs hS h => ?_)
  refine lv_istore (lv' := [(6, .int r1), (0, .ref b), (1, .ref (ga X 0)), (2, .ref (ga X 25)), (3, .ref (ga X 34)), (4, .ref (ga X 35)), (5, .int x5)]) hx hb ddL_law_1858 hl (by decide) rfl (fun ls hl => ?_)
  refine lv_aload_n hx hb ddL_law_1860 rfl (lv_at hl 3 rfl) ?_
  refine lv_aload_n hx hb ddL_law_1861 rfl (lv_at hl 1 rfl) ?_
  refine lv_iload hx hb ddL_law_1862 (lv_at hl 6 rfl) ?_
  refine lv_iconst (v := (1 : Int32)) hx hb ddL_law_1864 (by decide) ?_
  refine lv_iadd hx hb ddL_law_1865 ?_
  refine va_sld hx hb hX hbl hbA hS.2.2 hj1 ddL_law_1866 ?_
  rw [e1]
  refine k_VI (As := [.int a1]) (rest := []) (c_X5_passSlots l X h) mf_X5_passSlots lk1408 hx hb hml hown ht hK hZ hS hA 25 5 rfl rfl rfl ⟨rfl, rfl⟩ ⟨Nat.le_of_ble_eq_true rfl, Nat.le_of_ble_eq_true rfl⟩ rfl hl.1 rfl (Nat.le_of_ble_eq_true rfl) (hz_le hz1 (by decide)) ddL_law_1867 (fun r4 σ3 H locs hS h => ?_)
  refine lv_istore (lv' := [(7, .int r4), (6, .int r1), (0, .ref b), (1, .ref (ga X 0)), (2, .ref (ga X 25)), (3, .ref (ga X 34)), (4, .ref (ga X 35)), (5, .int x5)]) hx hb ddL_law_1870 hl (by decide) rfl (fun ls hl => ?_)
  refine lv_aload_n hx hb ddL_law_1872 rfl (lv_at hl 4 rfl) ?_
  refine k_VI (As := []) (rest := []) (c_X5_thrown l X h) mf_X5_thrown lk1188 hx hb hml hown ht hK hZ hS hA 25 5 rfl rfl rfl ⟨rfl, rfl⟩ ⟨Nat.le_of_ble_eq_true rfl, Nat.le_of_ble_eq_true rfl⟩ rfl hl.1 rfl (Nat.le_of_ble_eq_true rfl) (hz_le hz1 (by decide)) ddL_law_1873 (fun r6 σ5 H locs hS h => ?_)
  refine lv_iload hx hb ddL_law_1876 (lv_at hl 1 rfl) ?_
  refine lv_icmp_eq (tgt := 1883) hx hb ddL_law_1878 (by decide) (fun c7 => ?_) (fun c7 => ?_)
  · replace h := h.1 c7
    refine lv_iload hx hb ddL_law_1883 (lv_at hl 1 rfl) ?_
    refine lv_if_ne (tgt := 1900) hx hb ddL_law_1885 (by decide) (fun c8 => ?_) (fun c8 => ?_)
    · replace h := h.1 c8
      refine lv_goto (tgt := 2646) hx hb ddL_law_1900 (by decide) ?_
      exact kE _ _ _ _ _ _ ⟨by omega, by omega⟩ hS (lv_sub hl [2, 3, 4, 5, 6, 7] rfl) h
    · replace h := h.2 c8
      refine lv_aload_n hx hb ddL_law_1888 rfl (lv_at hl 5 rfl) ?_
      refine lv_iconst (v := (0 : Int32)) hx hb ddL_law_1889 (by decide) ?_
      refine lald_34 hx hb hK hS ddL_law_1890 ?_
      refine lv_iload hx hb ddL_law_1891 (lv_at hl 0 rfl) ?_
      refine lv_i2l hx hb ddL_law_1893 rfl ?_
      refine W.lcmp hx hb ddL_law_1894 ?_
      refine lv_if_eq (tgt := 1900) hx hb ddL_law_1895 (by decide) (fun c9 => ?_) (fun c9 => ?_)
      · replace h := h.1 c9
        refine lv_goto (tgt := 2646) hx hb ddL_law_1900 (by decide) ?_
        exact kE _ _ _ _ _ _ ⟨by omega, by omega⟩ hS (lv_sub hl [2, 3, 4, 5, 6, 7] rfl) h
      · replace h := h.2 c9
        refine lv_iconst (v := (0 : Int32)) hx hb ddL_law_1898 (by decide) ?_
        exact h.elim
  · replace h := h.2 c7
    refine lv_iconst (v := (0 : Int32)) hx hb ddL_law_1881 (by decide) ?_
    exact h.elim
set_option maxHeartbeats 4000000 in
set_option maxRecDepth 100000 in
theorem lc_30 {p : Program} {l : Launch} {e : Env} {s : State} {m : MethodId} {below : List Frame} {meth : Method} {c : Code} {A : Nat → Prop} {X : GX} {b L : Nat} {xs : Nat → Int32} {Q : State → Prop} (hC : LC l X p s m meth c A b L xs) {x5 a1 a2 a3 a4 : Int32} {σ : Mem} {H : Heap} {locs : List Loc} {ls : Array Slot} {cells slots : Nat} (hj : LJ x5 L xs a1 a2 a3 a4) (hz0 : cells ≤ room_1.cells ∧ slots ≤ room_1.slots) (hz1 : cells + 3 ≤ room_1.cells ∧ slots + 18 ≤ room_1.slots) (hS : WS X A s.heap σ H locs) (hl : lv_has ls 9 [(0, .ref b), (1, .ref (ga X 0)), (2, .ref (ga X 25)), (3, .ref (ga X 34)), (4, .ref (ga X 35)), (5, .int x5)]) {B : Mem → Prop} (h : wplc_30 a1 a2 a3 a4 σ B) (kE : LE p l e s m below meth c A X b x5 Q B cells slots) : W p l e room_1 s m #[Value.ref b] below meth c H locs cells slots Q (F0 m 1903 ls []) := by
  obtain ⟨hx, hb, hml, hown, ht, hK, hZ, hA, hY, hX, hbl, hbA, hfl⟩ := hC
  obtain ⟨hj0, hj1, hj2, hj3, hj4, e1, e2, e3, e4⟩ := hj
  unfold wplc_30 at h
  refine lv_aload_n hx hb ddL_law_1903 rfl (lv_at hl 1 rfl) ?_
  refine k_VI (As := []) (rest := []) (c_X4_rations l X h) mf_X4_rations lk208 hx hb hml hown ht hK hZ hS hA 0 0 rfl rfl rfl ⟨rfl, rfl⟩ ⟨Nat.le_of_ble_eq_true rfl, Nat.le_of_ble_eq_true rfl⟩ rfl hl.1 rfl (Nat.le_of_ble_eq_true rfl) hz0 ddL_law_1904 (fun r2 σ1 H locs hS h => ?_)
  refine lv_aload_n hx hb ddL_law_1907 rfl (lv_at hl 2 rfl) ?_
  refine k_VI (As := []) (rest := [.int r2]) (c_X5_rations l X h) mf_X5_rations lk1416 hx hb hml hown ht hK hZ hS hA 25 5 rfl rfl rfl ⟨rfl, rfl⟩ ⟨Nat.le_of_ble_eq_true rfl, Nat.le_of_ble_eq_true rfl⟩ rfl hl.1 rfl (Nat.le_of_ble_eq_true rfl) hz0 ddL_law_1908 (fun r4 σ3 H locs hS h => ?_)
  refine lv_icmp_eq (tgt := 2646) hx hb ddL_law_1911 (by decide) (fun c5 => ?_) (fun c5 => ?_)
  · replace h := h.1 c5
    exact kE _ _ _ _ _ _ ⟨by omega, by omega⟩ hS (lv_sub hl [0, 1, 2, 3, 4, 5] rfl) h
  · replace h := h.2 c5
    refine lv_iconst (v := (0 : Int32)) hx hb ddL_law_1914 (by decide) ?_
    exact h.elim
set_option maxHeartbeats 4000000 in
set_option maxRecDepth 100000 in
theorem lc_31 {p : Program} {l : Launch} {e : Env} {s : State} {m : MethodId} {below : List Frame} {meth : Method} {c : Code} {A : Nat → Prop} {X : GX} {b L : Nat} {xs : Nat → Int32} {Q : State → Prop} (hC : LC l X p s m meth c A b L xs) {x5 a1 a2 a3 a4 : Int32} {σ : Mem} {H : Heap} {locs : List Loc} {ls : Array Slot} {cells slots : Nat} (hj : LJ x5 L xs a1 a2 a3 a4) (hz0 : cells ≤ room_1.cells ∧ slots ≤ room_1.slots) (hz1 : cells + 3 ≤ room_1.cells ∧ slots + 18 ≤ room_1.slots) (hS : WS X A s.heap σ H locs) (hl : lv_has ls 9 [(0, .ref b), (1, .ref (ga X 0)), (2, .ref (ga X 25)), (3, .ref (ga X 34)), (4, .ref (ga X 35)), (5, .int x5)]) {B : Mem → Prop} (h : wplc_31 a1 a2 a3 a4 σ B) (kE : LE p l e s m below meth c A X b x5 Q B cells slots) : W p l e room_1 s m #[Value.ref b] below meth c H locs cells slots Q (F0 m 1916 ls []) := by
  obtain ⟨hx, hb, hml, hown, ht, hK, hZ, hA, hY, hX, hbl, hbA, hfl⟩ := hC
  obtain ⟨hj0, hj1, hj2, hj3, hj4, e1, e2, e3, e4⟩ := hj
  unfold wplc_31 at h
  refine lv_aload_n hx hb ddL_law_1916 rfl (lv_at hl 1 rfl) ?_
  refine k_VI (As := []) (rest := []) (c_X4_currentSlot l X h) mf_X4_currentSlot lk216 hx hb hml hown ht hK hZ hS hA 0 0 rfl rfl rfl ⟨rfl, rfl⟩ ⟨Nat.le_of_ble_eq_true rfl, Nat.le_of_ble_eq_true rfl⟩ rfl hl.1 rfl (Nat.le_of_ble_eq_true rfl) hz0 ddL_law_1917 (fun r2 σ1 H locs hS h => ?_)
  refine lv_aload_n hx hb ddL_law_1920 rfl (lv_at hl 2 rfl) ?_
  refine k_VI (As := []) (rest := [.int r2]) (c_X5_currentSlot l X h) mf_X5_currentSlot lk1420 hx hb hml hown ht hK hZ hS hA 25 5 rfl rfl rfl ⟨rfl, rfl⟩ ⟨Nat.le_of_ble_eq_true rfl, Nat.le_of_ble_eq_true rfl⟩ rfl hl.1 rfl (Nat.le_of_ble_eq_true rfl) hz0 ddL_law_1921 (fun r4 σ3 H locs hS h => ?_)
  refine lv_icmp_eq (tgt := 2646) hx hb ddL_law_1924 (by decide) (fun c5 => ?_) (fun c5 => ?_)
  · replace h := h.1 c5
    exact kE _ _ _ _ _ _ ⟨by omega, by omega⟩ hS (lv_sub hl [0, 1, 2, 3, 4, 5] rfl) h
  · replace h := h.2 c5
    refine lv_iconst (v := (0 : Int32)) hx hb ddL_law_1927 (by decide) ?_
    exact h.elim
set_option maxHeartbeats 4000000 in
set_option maxRecDepth 100000 in
theorem lc_32 {p : Program} {l : Launch} {e : Env} {s : State} {m : MethodId} {below : List Frame} {meth : Method} {c : Code} {A : Nat → Prop} {X : GX} {b L : Nat} {xs : Nat → Int32} {Q : State → Prop} (hC : LC l X p s m meth c A b L xs) {x5 a1 a2 a3 a4 : Int32} {σ : Mem} {H : Heap} {locs : List Loc} {ls : Array Slot} {cells slots : Nat} (hj : LJ x5 L xs a1 a2 a3 a4) (hz0 : cells ≤ room_1.cells ∧ slots ≤ room_1.slots) (hz1 : cells + 3 ≤ room_1.cells ∧ slots + 18 ≤ room_1.slots) (hS : WS X A s.heap σ H locs) (hl : lv_has ls 9 [(0, .ref b), (1, .ref (ga X 0)), (2, .ref (ga X 25)), (3, .ref (ga X 34)), (4, .ref (ga X 35)), (5, .int x5)]) {B : Mem → Prop} (h : wplc_32 a1 a2 a3 a4 σ B) (kE : LE p l e s m below meth c A X b x5 Q B cells slots) : W p l e room_1 s m #[Value.ref b] below meth c H locs cells slots Q (F0 m 1929 ls []) := by
  obtain ⟨hx, hb, hml, hown, ht, hK, hZ, hA, hY, hX, hbl, hbA, hfl⟩ := hC
  obtain ⟨hj0, hj1, hj2, hj3, hj4, e1, e2, e3, e4⟩ := hj
  unfold wplc_32 at h
  refine lv_aload_n hx hb ddL_law_1929 rfl (lv_at hl 1 rfl) ?_
  refine k_VI (As := []) (rest := []) (c_X4_missingRations l X h) mf_X4_missingRations lk220 hx hb hml hown ht hK hZ hS hA 0 0 rfl rfl rfl ⟨rfl, rfl⟩ ⟨Nat.le_of_ble_eq_true rfl, Nat.le_of_ble_eq_true rfl⟩ rfl hl.1 rfl (Nat.le_of_ble_eq_true rfl) hz0 ddL_law_1930 (fun r2 σ1 H locs hS h => ?_)
  refine lv_aload_n hx hb ddL_law_1933 rfl (lv_at hl 2 rfl) ?_
  refine k_VI (As := []) (rest := [.int r2]) (c_X5_missingRations l X h) mf_X5_missingRations lk1424 hx hb hml hown ht hK hZ hS hA 25 5 rfl rfl rfl ⟨rfl, rfl⟩ ⟨Nat.le_of_ble_eq_true rfl, Nat.le_of_ble_eq_true rfl⟩ rfl hl.1 rfl (Nat.le_of_ble_eq_true rfl) hz0 ddL_law_1934 (fun r4 σ3 H locs hS h => ?_)
  refine lv_icmp_eq (tgt := 2646) hx hb ddL_law_1937 (by decide) (fun c5 => ?_) (fun c5 => ?_)
  · replace h := h.1 c5
    exact kE _ _ _ _ _ _ ⟨by omega, by omega⟩ hS (lv_sub hl [0, 1, 2, 3, 4, 5] rfl) h
  · replace h := h.2 c5
    refine lv_iconst (v := (0 : Int32)) hx hb ddL_law_1940 (by decide) ?_
    exact h.elim
set_option maxHeartbeats 4000000 in
set_option maxRecDepth 100000 in
theorem lc_33 {p : Program} {l : Launch} {e : Env} {s : State} {m : MethodId} {below : List Frame} {meth : Method} {c : Code} {A : Nat → Prop} {X : GX} {b L : Nat} {xs : Nat → Int32} {Q : State → Prop} (hC : LC l X p s m meth c A b L xs) {x5 a1 a2 a3 a4 : Int32} {σ : Mem} {H : Heap} {locs : List Loc} {ls : Array Slot} {cells slots : Nat} (hj : LJ x5 L xs a1 a2 a3 a4) (hz0 : cells ≤ room_1.cells ∧ slots ≤ room_1.slots) (hz1 : cells + 3 ≤ room_1.cells ∧ slots + 18 ≤ room_1.slots) (hS : WS X A s.heap σ H locs) (hl : lv_has ls 9 [(0, .ref b), (1, .ref (ga X 0)), (2, .ref (ga X 25)), (3, .ref (ga X 34)), (4, .ref (ga X 35)), (5, .int x5)]) {B : Mem → Prop} (h : wplc_33 a1 a2 a3 a4 σ B) (kE : LE p l e s m below meth c A X b x5 Q B cells slots) : W p l e room_1 s m #[Value.ref b] below meth c H locs cells slots Q (F0 m 1942 ls []) := by
  obtain ⟨hx, hb, hml, hown, ht, hK, hZ, hA, hY, hX, hbl, hbA, hfl⟩ := hC
  obtain ⟨hj0, hj1, hj2, hj3, hj4, e1, e2, e3, e4⟩ := hj
  unfold wplc_33 at h
  refine lv_aload_n hx hb ddL_law_1942 rfl (lv_at hl 1 rfl) ?_
  refine lv_aload_n hx hb ddL_law_1943 rfl (lv_at hl 3 rfl) ?_
  refine kw_SI (As := [.ref (ga X 0), .ref (ga X 34)]) (rest := []) (c_L_refusalReason l X hfl h) mfw_L_refusalReason lk841 hx hb hml hown ht hK hZ hS hA hY ⟨rfl, rfl⟩ ⟨Nat.le_of_ble_eq_true rfl, Nat.le_of_ble_eq_true rfl⟩ rfl hl.1 rfl (Nat.le_of_ble_eq_true rfl) (hz_le hz1 (by decide)) ddL_law_1944 (fun r1 σ2 H locs hS h => ?_)
  refine lv_istore (lv' := [(6, .int r1), (0, .ref b), (1, .ref (ga X 0)), (2, .ref (ga X 25)), (3, .ref (ga X 34)), (4, .ref (ga X 35)), (5, .int x5)]) hx hb ddL_law_1947 hl (by decide) rfl (fun ls hl => ?_)
  refine lv_aload_n hx hb ddL_law_1949 rfl (lv_at hl 3 rfl) ?_
  refine k_VI (As := []) (rest := []) (c_X5_refusalReason l X h) mf_X5_refusalReason lk1428 hx hb hml hown ht hK hZ hS hA 25 5 rfl rfl rfl ⟨rfl, rfl⟩ ⟨Nat.le_of_ble_eq_true rfl, Nat.le_of_ble_eq_true rfl⟩ rfl hl.1 rfl (Nat.le_of_ble_eq_true rfl) (hz_le hz1 (by decide)) ddL_law_1950 (fun r4 σ3 H locs hS h => ?_)
  refine lv_istore (lv' := [(7, .int r4), (6, .int r1), (0, .ref b), (1, .ref (ga X 0)), (2, .ref (ga X 25)), (3, .ref (ga X 34)), (4, .ref (ga X 35)), (5, .int x5)]) hx hb ddL_law_1953 hl (by decide) rfl (fun ls hl => ?_)
  refine lv_aload_n hx hb ddL_law_1955 rfl (lv_at hl 4 rfl) ?_
  refine k_VI (As := []) (rest := []) (c_X5_thrown l X h) mf_X5_thrown lk1188 hx hb hml hown ht hK hZ hS hA 25 5 rfl rfl rfl ⟨rfl, rfl⟩ ⟨Nat.le_of_ble_eq_true rfl, Nat.le_of_ble_eq_true rfl⟩ rfl hl.1 rfl (Nat.le_of_ble_eq_true rfl) (hz_le hz1 (by decide)) ddL_law_1956 (fun r6 σ5 H locs hS h => ?_)
  refine lv_iload hx hb ddL_law_1959 (lv_at hl 1 rfl) ?_
  refine lv_icmp_eq (tgt := 1966) hx hb ddL_law_1961 (by decide) (fun c7 => ?_) (fun c7 => ?_)
  · replace h := h.1 c7
    refine lv_iload hx hb ddL_law_1966 (lv_at hl 1 rfl) ?_
    refine lv_if_ne (tgt := 1983) hx hb ddL_law_1968 (by decide) (fun c8 => ?_) (fun c8 => ?_)
    · replace h := h.1 c8
      refine lv_goto (tgt := 2646) hx hb ddL_law_1983 (by decide) ?_
      exact kE _ _ _ _ _ _ ⟨by omega, by omega⟩ hS (lv_sub hl [2, 3, 4, 5, 6, 7] rfl) h
    · replace h := h.2 c8
      refine lv_aload_n hx hb ddL_law_1971 rfl (lv_at hl 5 rfl) ?_
      refine lv_iconst (v := (0 : Int32)) hx hb ddL_law_1972 (by decide) ?_
      refine lald_34 hx hb hK hS ddL_law_1973 ?_
      refine lv_iload hx hb ddL_law_1974 (lv_at hl 0 rfl) ?_
      refine lv_i2l hx hb ddL_law_1976 rfl ?_
      refine W.lcmp hx hb ddL_law_1977 ?_
      refine lv_if_eq (tgt := 1983) hx hb ddL_law_1978 (by decide) (fun c9 => ?_) (fun c9 => ?_)
      · replace h := h.1 c9
        refine lv_goto (tgt := 2646) hx hb ddL_law_1983 (by decide) ?_
        exact kE _ _ _ _ _ _ ⟨by omega, by omega⟩ hS (lv_sub hl [2, 3, 4, 5, 6, 7] rfl) h
      · replace h := h.2 c9
        refine lv_iconst (v := (0 : Int32)) hx hb ddL_law_1981 (by decide) ?_
        exact h.elim
  · replace h := h.2 c7
    refine lv_iconst (v := (0 : Int32)) hx hb ddL_law_1964 (by decide) ?_
    exact h.elim
set_option maxHeartbeats 4000000 in
set_option maxRecDepth 100000 in
theorem lc_34 {p : Program} {l : Launch} {e : Env} {s : State} {m : MethodId} {below : List Frame} {meth : Method} {c : Code} {A : Nat → Prop} {X : GX} {b L : Nat} {xs : Nat → Int32} {Q : State → Prop} (hC : LC l X p s m meth c A b L xs) {x5 a1 a2 a3 a4 : Int32} {σ : Mem} {H : Heap} {locs : List Loc} {ls : Array Slot} {cells slots : Nat} (hj : LJ x5 L xs a1 a2 a3 a4) (hz0 : cells ≤ room_1.cells ∧ slots ≤ room_1.slots) (hz1 : cells + 3 ≤ room_1.cells ∧ slots + 18 ≤ room_1.slots) (hS : WS X A s.heap σ H locs) (hl : lv_has ls 9 [(0, .ref b), (1, .ref (ga X 0)), (2, .ref (ga X 25)), (3, .ref (ga X 34)), (4, .ref (ga X 35)), (5, .int x5)]) {B : Mem → Prop} (h : wplc_34 a1 a2 a3 a4 σ B) (kE : LE p l e s m below meth c A X b x5 Q B cells slots) : W p l e room_1 s m #[Value.ref b] below meth c H locs cells slots Q (F0 m 1986 ls []) := by
  obtain ⟨hx, hb, hml, hown, ht, hK, hZ, hA, hY, hX, hbl, hbA, hfl⟩ := hC
  obtain ⟨hj0, hj1, hj2, hj3, hj4, e1, e2, e3, e4⟩ := hj
  unfold wplc_34 at h
  refine lv_aload_n hx hb ddL_law_1986 rfl (lv_at hl 1 rfl) ?_
  refine lv_aload_n hx hb ddL_law_1987 rfl (lv_at hl 3 rfl) ?_
  refine kw_SI (As := [.ref (ga X 0), .ref (ga X 34)]) (rest := []) (c_L_refusalDetail l X hfl h) mfw_L_refusalDetail lk853 hx hb hml hown ht hK hZ hS hA hY ⟨rfl, rfl⟩ ⟨Nat.le_of_ble_eq_true rfl, Nat.le_of_ble_eq_true rfl⟩ rfl hl.1 rfl (Nat.le_of_ble_eq_true rfl) (hz_le hz1 (by decide)) ddL_law_1988 (fun r1 σ2 H locs hS h => ?_)
  refine lv_istore (lv' := [(6, .int r1), (0, .ref b), (1, .ref (ga X 0)), (2, .ref (ga X 25)), (3, .ref (ga X 34)), (4, .ref (ga X 35)), (5, .int x5)]) hx hb ddL_law_1991 hl (by decide) rfl (fun ls hl => ?_)
  refine lv_aload_n hx hb ddL_law_1993 rfl (lv_at hl 3 rfl) ?_
  refine k_VI (As := []) (rest := []) (c_X5_refusalDetail l X h) mf_X5_refusalDetail lk1432 hx hb hml hown ht hK hZ hS hA 25 5 rfl rfl rfl ⟨rfl, rfl⟩ ⟨Nat.le_of_ble_eq_true rfl, Nat.le_of_ble_eq_true rfl⟩ rfl hl.1 rfl (Nat.le_of_ble_eq_true rfl) (hz_le hz1 (by decide)) ddL_law_1994 (fun r4 σ3 H locs hS h => ?_)
  refine lv_istore (lv' := [(7, .int r4), (6, .int r1), (0, .ref b), (1, .ref (ga X 0)), (2, .ref (ga X 25)), (3, .ref (ga X 34)), (4, .ref (ga X 35)), (5, .int x5)]) hx hb ddL_law_1997 hl (by decide) rfl (fun ls hl => ?_)
  refine lv_aload_n hx hb ddL_law_1999 rfl (lv_at hl 4 rfl) ?_
  refine k_VI (As := []) (rest := []) (c_X5_thrown l X h) mf_X5_thrown lk1188 hx hb hml hown ht hK hZ hS hA 25 5 rfl rfl rfl ⟨rfl, rfl⟩ ⟨Nat.le_of_ble_eq_true rfl, Nat.le_of_ble_eq_true rfl⟩ rfl hl.1 rfl (Nat.le_of_ble_eq_true rfl) (hz_le hz1 (by decide)) ddL_law_2000 (fun r6 σ5 H locs hS h => ?_)
  refine lv_iload hx hb ddL_law_2003 (lv_at hl 1 rfl) ?_
  refine lv_icmp_eq (tgt := 2010) hx hb ddL_law_2005 (by decide) (fun c7 => ?_) (fun c7 => ?_)
  · replace h := h.1 c7
    refine lv_iload hx hb ddL_law_2010 (lv_at hl 1 rfl) ?_
    refine lv_if_ne (tgt := 2027) hx hb ddL_law_2012 (by decide) (fun c8 => ?_) (fun c8 => ?_)
    · replace h := h.1 c8
      refine lv_goto (tgt := 2646) hx hb ddL_law_2027 (by decide) ?_
      exact kE _ _ _ _ _ _ ⟨by omega, by omega⟩ hS (lv_sub hl [2, 3, 4, 5, 6, 7] rfl) h
    · replace h := h.2 c8
      refine lv_aload_n hx hb ddL_law_2015 rfl (lv_at hl 5 rfl) ?_
      refine lv_iconst (v := (0 : Int32)) hx hb ddL_law_2016 (by decide) ?_
      refine lald_34 hx hb hK hS ddL_law_2017 ?_
      refine lv_iload hx hb ddL_law_2018 (lv_at hl 0 rfl) ?_
      refine lv_i2l hx hb ddL_law_2020 rfl ?_
      refine W.lcmp hx hb ddL_law_2021 ?_
      refine lv_if_eq (tgt := 2027) hx hb ddL_law_2022 (by decide) (fun c9 => ?_) (fun c9 => ?_)
      · replace h := h.1 c9
        refine lv_goto (tgt := 2646) hx hb ddL_law_2027 (by decide) ?_
        exact kE _ _ _ _ _ _ ⟨by omega, by omega⟩ hS (lv_sub hl [2, 3, 4, 5, 6, 7] rfl) h
      · replace h := h.2 c9
        refine lv_iconst (v := (0 : Int32)) hx hb ddL_law_2025 (by decide) ?_
        exact h.elim
  · replace h := h.2 c7
    refine lv_iconst (v := (0 : Int32)) hx hb ddL_law_2008 (by decide) ?_
    exact h.elim
set_option maxHeartbeats 4000000 in
set_option maxRecDepth 100000 in
theorem lc_35 {p : Program} {l : Launch} {e : Env} {s : State} {m : MethodId} {below : List Frame} {meth : Method} {c : Code} {A : Nat → Prop} {X : GX} {b L : Nat} {xs : Nat → Int32} {Q : State → Prop} (hC : LC l X p s m meth c A b L xs) {x5 a1 a2 a3 a4 : Int32} {σ : Mem} {H : Heap} {locs : List Loc} {ls : Array Slot} {cells slots : Nat} (hj : LJ x5 L xs a1 a2 a3 a4) (hz0 : cells ≤ room_1.cells ∧ slots ≤ room_1.slots) (hz1 : cells + 3 ≤ room_1.cells ∧ slots + 18 ≤ room_1.slots) (hS : WS X A s.heap σ H locs) (hl : lv_has ls 9 [(0, .ref b), (1, .ref (ga X 0)), (2, .ref (ga X 25)), (3, .ref (ga X 34)), (4, .ref (ga X 35)), (5, .int x5)]) {B : Mem → Prop} (h : wplc_35 a1 a2 a3 a4 σ B) (kE : LE p l e s m below meth c A X b x5 Q B cells slots) : W p l e room_1 s m #[Value.ref b] below meth c H locs cells slots Q (F0 m 2030 ls []) := by
  obtain ⟨hx, hb, hml, hown, ht, hK, hZ, hA, hY, hX, hbl, hbA, hfl⟩ := hC
  obtain ⟨hj0, hj1, hj2, hj3, hj4, e1, e2, e3, e4⟩ := hj
  unfold wplc_35 at h
  refine lv_aload_n hx hb ddL_law_2030 rfl (lv_at hl 1 rfl) ?_
  refine lv_aload hx hb ddL_law_2031 (lv_at hl 4 rfl) ?_
  refine kw_SI (As := [.ref (ga X 0), .ref (ga X 35)]) (rest := []) (c_L_meanDuties l X hfl h) mfw_L_meanDuties lk860 hx hb hml hown ht hK hZ hS hA hY ⟨rfl, rfl⟩ ⟨Nat.le_of_ble_eq_true rfl, Nat.le_of_ble_eq_true rfl⟩ rfl hl.1 rfl (Nat.le_of_ble_eq_true rfl) (hz_le hz1 (by decide)) ddL_law_2033 (fun r1 σ2 H locs hS h => ?_)
  refine lv_istore (lv' := [(6, .int r1), (0, .ref b), (1, .ref (ga X 0)), (2, .ref (ga X 25)), (3, .ref (ga X 34)), (4, .ref (ga X 35)), (5, .int x5)]) hx hb ddL_law_2036 hl (by decide) rfl (fun ls hl => ?_)
  refine lv_aload_n hx hb ddL_law_2038 rfl (lv_at hl 3 rfl) ?_
  refine k_VD (As := []) (rest := []) (c_X5_meanDuties l X h) mf_X5_meanDuties lk1436 hx hb hml hown ht hK hZ hS hA 25 5 rfl rfl rfl ⟨rfl, rfl⟩ ⟨Nat.le_of_ble_eq_true rfl, Nat.le_of_ble_eq_true rfl⟩ rfl hl.1 rfl (Nat.le_of_ble_eq_true rfl) (hz_le hz1 (by decide)) ddL_law_2039 (fun r4 σ3 H locs hS h => ?_)
  refine lv_dstore (lv' := [(7, .double r4), (6, .int r1), (0, .ref b), (1, .ref (ga X 0)), (2, .ref (ga X 25)), (3, .ref (ga X 34)), (4, .ref (ga X 35)), (5, .int x5)]) hx hb ddL_law_2042 hl (by decide) rfl (fun ls hl => ?_)
  refine lv_aload_n hx hb ddL_law_2044 rfl (lv_at hl 4 rfl) ?_
  refine k_VI (As := []) (rest := []) (c_X5_thrown l X h) mf_X5_thrown lk1188 hx hb hml hown ht hK hZ hS hA 25 5 rfl rfl rfl ⟨rfl, rfl⟩ ⟨Nat.le_of_ble_eq_true rfl, Nat.le_of_ble_eq_true rfl⟩ rfl hl.1 rfl (Nat.le_of_ble_eq_true rfl) (hz_le hz1 (by decide)) ddL_law_2045 (fun r6 σ5 H locs hS h => ?_)
  refine lv_iload hx hb ddL_law_2048 (lv_at hl 1 rfl) ?_
  refine lv_icmp_eq (tgt := 2055) hx hb ddL_law_2050 (by decide) (fun c7 => ?_) (fun c7 => ?_)
  · replace h := h.1 c7
    refine lv_iload hx hb ddL_law_2055 (lv_at hl 1 rfl) ?_
    refine lv_if_ne (tgt := 2092) hx hb ddL_law_2057 (by decide) (fun c8 => ?_) (fun c8 => ?_)
    · replace h := h.1 c8
      refine lv_goto (tgt := 2646) hx hb ddL_law_2092 (by decide) ?_
      exact kE _ _ _ _ _ _ ⟨by omega, by omega⟩ hS (lv_sub hl [2, 3, 4, 5, 6, 7] rfl) h
    · replace h := h.2 c8
      refine lv_aload hx hb ddL_law_2060 (lv_at hl 6 rfl) ?_
      refine lv_iconst (v := (0 : Int32)) hx hb ddL_law_2062 (by decide) ?_
      refine dald_35 hx hb hK hS ddL_law_2063 ?_
      refine lv_dload hx hb ddL_law_2064 (lv_at hl 0 rfl) ?_
      refine lv_dcmp hx hb ddL_law_2066 ?_
      refine lv_if_eq (tgt := 2092) hx hb ddL_law_2067 (by decide) (fun c9 => ?_) (fun c9 => ?_)
      · replace h := h.1 c9
        refine lv_goto (tgt := 2646) hx hb ddL_law_2092 (by decide) ?_
        exact kE _ _ _ _ _ _ ⟨by omega, by omega⟩ hS (lv_sub hl [2, 3, 4, 5, 6, 7] rfl) h
      · replace h := h.2 c9
        refine lv_aload hx hb ddL_law_2070 (lv_at hl 6 rfl) ?_
        refine lv_iconst (v := (0 : Int32)) hx hb ddL_law_2072 (by decide) ?_
        refine dald_35 hx hb hK hS ddL_law_2073 ?_
        refine lv_aload hx hb ddL_law_2074 (lv_at hl 6 rfl) ?_
        refine lv_iconst (v := (0 : Int32)) hx hb ddL_law_2076 (by decide) ?_
        refine dald_35 hx hb hK hS ddL_law_2077 ?_
        refine lv_dcmp hx hb ddL_law_2078 ?_
        refine lv_if_eq (tgt := 2090) hx hb ddL_law_2079 (by decide) (fun c10 => ?_) (fun c10 => ?_)
        · replace h := h.1 c10
          refine lv_iconst (v := (0 : Int32)) hx hb ddL_law_2090 (by decide) ?_
          exact h.elim
        · replace h := h.2 c10
          refine lv_dload hx hb ddL_law_2082 (lv_at hl 0 rfl) ?_
          refine lv_dload hx hb ddL_law_2084 (lv_at hl 0 rfl) ?_
          refine lv_dcmp hx hb ddL_law_2086 ?_
          refine lv_if_ne (tgt := 2092) hx hb ddL_law_2087 (by decide) (fun c11 => ?_) (fun c11 => ?_)
          · replace h := h.1 c11
            refine lv_goto (tgt := 2646) hx hb ddL_law_2092 (by decide) ?_
            exact kE _ _ _ _ _ _ ⟨by omega, by omega⟩ hS (lv_sub hl [2, 3, 4, 5, 6, 7] rfl) h
          · replace h := h.2 c11
            refine lv_iconst (v := (0 : Int32)) hx hb ddL_law_2090 (by decide) ?_
            exact h.elim
  · replace h := h.2 c7
    refine lv_iconst (v := (0 : Int32)) hx hb ddL_law_2053 (by decide) ?_
    exact h.elim
set_option maxHeartbeats 4000000 in
set_option maxRecDepth 100000 in
theorem lc_36 {p : Program} {l : Launch} {e : Env} {s : State} {m : MethodId} {below : List Frame} {meth : Method} {c : Code} {A : Nat → Prop} {X : GX} {b L : Nat} {xs : Nat → Int32} {Q : State → Prop} (hC : LC l X p s m meth c A b L xs) {x5 a1 a2 a3 a4 : Int32} {σ : Mem} {H : Heap} {locs : List Loc} {ls : Array Slot} {cells slots : Nat} (hj : LJ x5 L xs a1 a2 a3 a4) (hz0 : cells ≤ room_1.cells ∧ slots ≤ room_1.slots) (hz1 : cells + 3 ≤ room_1.cells ∧ slots + 18 ≤ room_1.slots) (hS : WS X A s.heap σ H locs) (hl : lv_has ls 9 [(0, .ref b), (1, .ref (ga X 0)), (2, .ref (ga X 25)), (3, .ref (ga X 34)), (4, .ref (ga X 35)), (5, .int x5)]) {B : Mem → Prop} (h : wplc_36 a1 a2 a3 a4 σ B) (kE : LE p l e s m below meth c A X b x5 Q B cells slots) : W p l e room_1 s m #[Value.ref b] below meth c H locs cells slots Q (F0 m 2095 ls []) := by
  obtain ⟨hx, hb, hml, hown, ht, hK, hZ, hA, hY, hX, hbl, hbA, hfl⟩ := hC
  obtain ⟨hj0, hj1, hj2, hj3, hj4, e1, e2, e3, e4⟩ := hj
  unfold wplc_36 at h
  refine lv_aload_n hx hb ddL_law_2095 rfl (lv_at hl 1 rfl) ?_
  refine lv_aload hx hb ddL_law_2096 (lv_at hl 4 rfl) ?_
  refine kw_SI (As := [.ref (ga X 0), .ref (ga X 35)]) (rest := []) (c_L_coveredFraction l X hfl h) mfw_L_coveredFraction lk884 hx hb hml hown ht hK hZ hS hA hY ⟨rfl, rfl⟩ ⟨Nat.le_of_ble_eq_true rfl, Nat.le_of_ble_eq_true rfl⟩ rfl hl.1 rfl (Nat.le_of_ble_eq_true rfl) (hz_le hz1 (by decide)) ddL_law_2098 (fun r1 σ2 H locs hS h => ?_)
  refine lv_istore (lv' := [(6, .int r1), (0, .ref b), (1, .ref (ga X 0)), (2, .ref (ga X 25)), (3, .ref (ga X 34)), (4, .ref (ga X 35)), (5, .int x5)]) hx hb ddL_law_2101 hl (by decide) rfl (fun ls hl => ?_)
  refine lv_aload_n hx hb ddL_law_2103 rfl (lv_at hl 3 rfl) ?_
  refine k_VF (As := []) (rest := []) (c_X5_coveredFraction l X h) mf_X5_coveredFraction lk1440 hx hb hml hown ht hK hZ hS hA 25 5 rfl rfl rfl ⟨rfl, rfl⟩ ⟨Nat.le_of_ble_eq_true rfl, Nat.le_of_ble_eq_true rfl⟩ rfl hl.1 rfl (Nat.le_of_ble_eq_true rfl) (hz_le hz1 (by decide)) ddL_law_2104 (fun r4 σ3 H locs hS h => ?_)
  refine lv_fstore (lv' := [(7, .float r4), (6, .int r1), (0, .ref b), (1, .ref (ga X 0)), (2, .ref (ga X 25)), (3, .ref (ga X 34)), (4, .ref (ga X 35)), (5, .int x5)]) hx hb ddL_law_2107 hl (by decide) rfl (fun ls hl => ?_)
  refine lv_aload_n hx hb ddL_law_2109 rfl (lv_at hl 4 rfl) ?_
  refine k_VI (As := []) (rest := []) (c_X5_thrown l X h) mf_X5_thrown lk1188 hx hb hml hown ht hK hZ hS hA 25 5 rfl rfl rfl ⟨rfl, rfl⟩ ⟨Nat.le_of_ble_eq_true rfl, Nat.le_of_ble_eq_true rfl⟩ rfl hl.1 rfl (Nat.le_of_ble_eq_true rfl) (hz_le hz1 (by decide)) ddL_law_2110 (fun r6 σ5 H locs hS h => ?_)
  refine lv_iload hx hb ddL_law_2113 (lv_at hl 1 rfl) ?_
  refine lv_icmp_eq (tgt := 2120) hx hb ddL_law_2115 (by decide) (fun c7 => ?_) (fun c7 => ?_)
  · replace h := h.1 c7
    refine lv_iload hx hb ddL_law_2120 (lv_at hl 1 rfl) ?_
    refine lv_if_ne (tgt := 2158) hx hb ddL_law_2122 (by decide) (fun c8 => ?_) (fun c8 => ?_)
    · replace h := h.1 c8
      refine lv_goto (tgt := 2646) hx hb ddL_law_2158 (by decide) ?_
      exact kE _ _ _ _ _ _ ⟨by omega, by omega⟩ hS (lv_sub hl [2, 3, 4, 5, 6, 7] rfl) h
    · replace h := h.2 c8
      refine lv_aload hx hb ddL_law_2125 (lv_at hl 6 rfl) ?_
      refine lv_iconst (v := (0 : Int32)) hx hb ddL_law_2127 (by decide) ?_
      refine dald_35 hx hb hK hS ddL_law_2128 ?_
      refine lv_fload hx hb ddL_law_2129 (lv_at hl 0 rfl) ?_
      refine lv_f2d hx hb ddL_law_2131 h.1 ?_
      replace h := h.2
      refine lv_dcmp hx hb ddL_law_2132 ?_
      refine lv_if_eq (tgt := 2158) hx hb ddL_law_2133 (by decide) (fun c9 => ?_) (fun c9 => ?_)
      · replace h := h.1 c9
        refine lv_goto (tgt := 2646) hx hb ddL_law_2158 (by decide) ?_
        exact kE _ _ _ _ _ _ ⟨by omega, by omega⟩ hS (lv_sub hl [2, 3, 4, 5, 6, 7] rfl) h
      · replace h := h.2 c9
        refine lv_aload hx hb ddL_law_2136 (lv_at hl 6 rfl) ?_
        refine lv_iconst (v := (0 : Int32)) hx hb ddL_law_2138 (by decide) ?_
        refine dald_35 hx hb hK hS ddL_law_2139 ?_
        refine lv_aload hx hb ddL_law_2140 (lv_at hl 6 rfl) ?_
        refine lv_iconst (v := (0 : Int32)) hx hb ddL_law_2142 (by decide) ?_
        refine dald_35 hx hb hK hS ddL_law_2143 ?_
        refine lv_dcmp hx hb ddL_law_2144 ?_
        refine lv_if_eq (tgt := 2156) hx hb ddL_law_2145 (by decide) (fun c10 => ?_) (fun c10 => ?_)
        · replace h := h.1 c10
          refine lv_iconst (v := (0 : Int32)) hx hb ddL_law_2156 (by decide) ?_
          exact h.elim
        · replace h := h.2 c10
          refine lv_fload hx hb ddL_law_2148 (lv_at hl 0 rfl) ?_
          refine lv_fload hx hb ddL_law_2150 (lv_at hl 0 rfl) ?_
          refine lv_fcmp hx hb ddL_law_2152 ?_
          refine lv_if_ne (tgt := 2158) hx hb ddL_law_2153 (by decide) (fun c11 => ?_) (fun c11 => ?_)
          · replace h := h.1 c11
            refine lv_goto (tgt := 2646) hx hb ddL_law_2158 (by decide) ?_
            exact kE _ _ _ _ _ _ ⟨by omega, by omega⟩ hS (lv_sub hl [2, 3, 4, 5, 6, 7] rfl) h
          · replace h := h.2 c11
            refine lv_iconst (v := (0 : Int32)) hx hb ddL_law_2156 (by decide) ?_
            exact h.elim
  · replace h := h.2 c7
    refine lv_iconst (v := (0 : Int32)) hx hb ddL_law_2118 (by decide) ?_
    exact h.elim
set_option maxHeartbeats 4000000 in
set_option maxRecDepth 100000 in
theorem lc_37 {p : Program} {l : Launch} {e : Env} {s : State} {m : MethodId} {below : List Frame} {meth : Method} {c : Code} {A : Nat → Prop} {X : GX} {b L : Nat} {xs : Nat → Int32} {Q : State → Prop} (hC : LC l X p s m meth c A b L xs) {x5 a1 a2 a3 a4 : Int32} {σ : Mem} {H : Heap} {locs : List Loc} {ls : Array Slot} {cells slots : Nat} (hj : LJ x5 L xs a1 a2 a3 a4) (hz0 : cells ≤ room_1.cells ∧ slots ≤ room_1.slots) (hz1 : cells + 3 ≤ room_1.cells ∧ slots + 18 ≤ room_1.slots) (hS : WS X A s.heap σ H locs) (hl : lv_has ls 9 [(0, .ref b), (1, .ref (ga X 0)), (2, .ref (ga X 25)), (3, .ref (ga X 34)), (4, .ref (ga X 35)), (5, .int x5)]) {B : Mem → Prop} (h : wplc_37 a1 a2 a3 a4 σ B) (kE : LE p l e s m below meth c A X b x5 Q B cells slots) : W p l e room_1 s m #[Value.ref b] below meth c H locs cells slots Q (F0 m 2161 ls []) := by
  obtain ⟨hx, hb, hml, hown, ht, hK, hZ, hA, hY, hX, hbl, hbA, hfl⟩ := hC
  obtain ⟨hj0, hj1, hj2, hj3, hj4, e1, e2, e3, e4⟩ := hj
  unfold wplc_37 at h
  refine lv_aload_n hx hb ddL_law_2161 rfl (lv_at hl 1 rfl) ?_
  refine lv_aload_n hx hb ddL_law_2162 rfl (lv_at hl 0 rfl) ?_
  refine lv_iload hx hb ddL_law_2163 (lv_at hl 5 rfl) ?_
  refine lv_iconst (v := (1 : Int32)) hx hb ddL_law_2165 (by decide) ?_
  refine lv_iadd hx hb ddL_law_2166 ?_
  refine va_sld hx hb hX hbl hbA hS.2.2 hj1 ddL_law_2167 ?_
  rw [e1]
  refine lv_aload_n hx hb ddL_law_2168 rfl (lv_at hl 3 rfl) ?_
  refine kw_SI (As := [.ref (ga X 0), .int a1, .ref (ga X 34)]) (rest := []) (c_L_writeSlot l X hfl h) mfw_L_writeSlot lk892 hx hb hml hown ht hK hZ hS hA hY ⟨rfl, rfl⟩ ⟨Nat.le_of_ble_eq_true rfl, Nat.le_of_ble_eq_true rfl⟩ rfl hl.1 rfl (Nat.le_of_ble_eq_true rfl) (hz_le hz1 (by decide)) ddL_law_2169 (fun r1 σ2 H locs hS h => ?_)
  refine lv_istore (lv' := [(6, .int r1), (0, .ref b), (1, .ref (ga X 0)), (2, .ref (ga X 25)), (3, .ref (ga X 34)), (4, .ref (ga X 35)), (5, .int x5)]) hx hb ddL_law_2172 hl (by decide) rfl (fun ls hl => ?_)
  refine lv_aload_n hx hb ddL_law_2174 rfl (lv_at hl 3 rfl) ?_
  refine lv_aload_n hx hb ddL_law_2175 rfl (lv_at hl 1 rfl) ?_
  refine lv_iload hx hb ddL_law_2176 (lv_at hl 6 rfl) ?_
  refine lv_iconst (v := (1 : Int32)) hx hb ddL_law_2178 (by decide) ?_
  refine lv_iadd hx hb ddL_law_2179 ?_
  refine va_sld hx hb hX hbl hbA hS.2.2 hj1 ddL_law_2180 ?_
  rw [e1]
  refine k_VI (As := [.int a1]) (rest := []) (c_X5_writeSlot l X h) mf_X5_writeSlot lk1444 hx hb hml hown ht hK hZ hS hA 25 5 rfl rfl rfl ⟨rfl, rfl⟩ ⟨Nat.le_of_ble_eq_true rfl, Nat.le_of_ble_eq_true rfl⟩ rfl hl.1 rfl (Nat.le_of_ble_eq_true rfl) (hz_le hz1 (by decide)) ddL_law_2181 (fun r4 σ3 H locs hS h => ?_)
  refine lv_istore (lv' := [(7, .int r4), (6, .int r1), (0, .ref b), (1, .ref (ga X 0)), (2, .ref (ga X 25)), (3, .ref (ga X 34)), (4, .ref (ga X 35)), (5, .int x5)]) hx hb ddL_law_2184 hl (by decide) rfl (fun ls hl => ?_)
  refine lv_aload_n hx hb ddL_law_2186 rfl (lv_at hl 4 rfl) ?_
  refine k_VI (As := []) (rest := []) (c_X5_thrown l X h) mf_X5_thrown lk1188 hx hb hml hown ht hK hZ hS hA 25 5 rfl rfl rfl ⟨rfl, rfl⟩ ⟨Nat.le_of_ble_eq_true rfl, Nat.le_of_ble_eq_true rfl⟩ rfl hl.1 rfl (Nat.le_of_ble_eq_true rfl) (hz_le hz1 (by decide)) ddL_law_2187 (fun r6 σ5 H locs hS h => ?_)
  refine lv_iload hx hb ddL_law_2190 (lv_at hl 1 rfl) ?_
  refine lv_icmp_eq (tgt := 2197) hx hb ddL_law_2192 (by decide) (fun c7 => ?_) (fun c7 => ?_)
  · replace h := h.1 c7
    refine lv_iload hx hb ddL_law_2197 (lv_at hl 1 rfl) ?_
    refine lv_if_ne (tgt := 2214) hx hb ddL_law_2199 (by decide) (fun c8 => ?_) (fun c8 => ?_)
    · replace h := h.1 c8
      refine lv_goto (tgt := 2646) hx hb ddL_law_2214 (by decide) ?_
      exact kE _ _ _ _ _ _ ⟨by omega, by omega⟩ hS (lv_sub hl [2, 3, 4, 5, 6, 7] rfl) h
    · replace h := h.2 c8
      refine lv_aload_n hx hb ddL_law_2202 rfl (lv_at hl 5 rfl) ?_
      refine lv_iconst (v := (0 : Int32)) hx hb ddL_law_2203 (by decide) ?_
      refine lald_34 hx hb hK hS ddL_law_2204 ?_
      refine lv_iload hx hb ddL_law_2205 (lv_at hl 0 rfl) ?_
      refine lv_i2l hx hb ddL_law_2207 rfl ?_
      refine W.lcmp hx hb ddL_law_2208 ?_
      refine lv_if_eq (tgt := 2214) hx hb ddL_law_2209 (by decide) (fun c9 => ?_) (fun c9 => ?_)
      · replace h := h.1 c9
        refine lv_goto (tgt := 2646) hx hb ddL_law_2214 (by decide) ?_
        exact kE _ _ _ _ _ _ ⟨by omega, by omega⟩ hS (lv_sub hl [2, 3, 4, 5, 6, 7] rfl) h
      · replace h := h.2 c9
        refine lv_iconst (v := (0 : Int32)) hx hb ddL_law_2212 (by decide) ?_
        exact h.elim
  · replace h := h.2 c7
    refine lv_iconst (v := (0 : Int32)) hx hb ddL_law_2195 (by decide) ?_
    exact h.elim
set_option maxHeartbeats 4000000 in
set_option maxRecDepth 100000 in
theorem lc_38 {p : Program} {l : Launch} {e : Env} {s : State} {m : MethodId} {below : List Frame} {meth : Method} {c : Code} {A : Nat → Prop} {X : GX} {b L : Nat} {xs : Nat → Int32} {Q : State → Prop} (hC : LC l X p s m meth c A b L xs) {x5 a1 a2 a3 a4 : Int32} {σ : Mem} {H : Heap} {locs : List Loc} {ls : Array Slot} {cells slots : Nat} (hj : LJ x5 L xs a1 a2 a3 a4) (hz0 : cells ≤ room_1.cells ∧ slots ≤ room_1.slots) (hz1 : cells + 3 ≤ room_1.cells ∧ slots + 18 ≤ room_1.slots) (hS : WS X A s.heap σ H locs) (hl : lv_has ls 9 [(0, .ref b), (1, .ref (ga X 0)), (2, .ref (ga X 25)), (3, .ref (ga X 34)), (4, .ref (ga X 35)), (5, .int x5)]) {B : Mem → Prop} (h : wplc_38 a1 a2 a3 a4 σ B) (kE : LE p l e s m below meth c A X b x5 Q B cells slots) : W p l e room_1 s m #[Value.ref b] below meth c H locs cells slots Q (F0 m 2217 ls []) := by
  obtain ⟨hx, hb, hml, hown, ht, hK, hZ, hA, hY, hX, hbl, hbA, hfl⟩ := hC
  obtain ⟨hj0, hj1, hj2, hj3, hj4, e1, e2, e3, e4⟩ := hj
  unfold wplc_38 at h
  refine lv_aload_n hx hb ddL_law_2217 rfl (lv_at hl 1 rfl) ?_
  refine lv_aload_n hx hb ddL_law_2218 rfl (lv_at hl 0 rfl) ?_
  refine lv_iload hx hb ddL_law_2219 (lv_at hl 5 rfl) ?_
  refine lv_iconst (v := (1 : Int32)) hx hb ddL_law_2221 (by decide) ?_
  refine lv_iadd hx hb ddL_law_2222 ?_
  refine va_sld hx hb hX hbl hbA hS.2.2 hj1 ddL_law_2223 ?_
  rw [e1]
  refine lv_aload_n hx hb ddL_law_2224 rfl (lv_at hl 3 rfl) ?_
  refine kw_SI (As := [.ref (ga X 0), .int a1, .ref (ga X 34)]) (rest := []) (c_L_writeGuard l X hfl h) mfw_L_writeGuard lk911 hx hb hml hown ht hK hZ hS hA hY ⟨rfl, rfl⟩ ⟨Nat.le_of_ble_eq_true rfl, Nat.le_of_ble_eq_true rfl⟩ rfl hl.1 rfl (Nat.le_of_ble_eq_true rfl) (hz_le hz1 (by decide)) ddL_law_2225 (fun r1 σ2 H locs hS h => ?_)
  refine lv_istore (lv' := [(6, .int r1), (0, .ref b), (1, .ref (ga X 0)), (2, .ref (ga X 25)), (3, .ref (ga X 34)), (4, .ref (ga X 35)), (5, .int x5)]) hx hb ddL_law_2228 hl (by decide) rfl (fun ls hl => ?_)
  refine lv_aload_n hx hb ddL_law_2230 rfl (lv_at hl 3 rfl) ?_
  refine lv_aload_n hx hb ddL_law_2231 rfl (lv_at hl 1 rfl) ?_
  refine lv_iload hx hb ddL_law_2232 (lv_at hl 6 rfl) ?_
  refine lv_iconst (v := (1 : Int32)) hx hb ddL_law_2234 (by decide) ?_
  refine lv_iadd hx hb ddL_law_2235 ?_
  refine va_sld hx hb hX hbl hbA hS.2.2 hj1 ddL_law_2236 ?_
  rw [e1]
  refine k_VI (As := [.int a1]) (rest := []) (c_X5_writeGuard l X h) mf_X5_writeGuard lk1452 hx hb hml hown ht hK hZ hS hA 25 5 rfl rfl rfl ⟨rfl, rfl⟩ ⟨Nat.le_of_ble_eq_true rfl, Nat.le_of_ble_eq_true rfl⟩ rfl hl.1 rfl (Nat.le_of_ble_eq_true rfl) (hz_le hz1 (by decide)) ddL_law_2237 (fun r4 σ3 H locs hS h => ?_)
  refine lv_istore (lv' := [(7, .int r4), (6, .int r1), (0, .ref b), (1, .ref (ga X 0)), (2, .ref (ga X 25)), (3, .ref (ga X 34)), (4, .ref (ga X 35)), (5, .int x5)]) hx hb ddL_law_2240 hl (by decide) rfl (fun ls hl => ?_)
  refine lv_aload_n hx hb ddL_law_2242 rfl (lv_at hl 4 rfl) ?_
  refine k_VI (As := []) (rest := []) (c_X5_thrown l X h) mf_X5_thrown lk1188 hx hb hml hown ht hK hZ hS hA 25 5 rfl rfl rfl ⟨rfl, rfl⟩ ⟨Nat.le_of_ble_eq_true rfl, Nat.le_of_ble_eq_true rfl⟩ rfl hl.1 rfl (Nat.le_of_ble_eq_true rfl) (hz_le hz1 (by decide)) ddL_law_2243 (fun r6 σ5 H locs hS h => ?_)
  refine lv_iload hx hb ddL_law_2246 (lv_at hl 1 rfl) ?_
  refine lv_icmp_eq (tgt := 2253) hx hb ddL_law_2248 (by decide) (fun c7 => ?_) (fun c7 => ?_)
  · replace h := h.1 c7
    refine lv_iload hx hb ddL_law_2253 (lv_at hl 1 rfl) ?_
    refine lv_if_ne (tgt := 2270) hx hb ddL_law_2255 (by decide) (fun c8 => ?_) (fun c8 => ?_)
    · replace h := h.1 c8
      refine lv_goto (tgt := 2646) hx hb ddL_law_2270 (by decide) ?_
      exact kE _ _ _ _ _ _ ⟨by omega, by omega⟩ hS (lv_sub hl [2, 3, 4, 5, 6, 7] rfl) h
    · replace h := h.2 c8
      refine lv_aload_n hx hb ddL_law_2258 rfl (lv_at hl 5 rfl) ?_
      refine lv_iconst (v := (0 : Int32)) hx hb ddL_law_2259 (by decide) ?_
      refine lald_34 hx hb hK hS ddL_law_2260 ?_
      refine lv_iload hx hb ddL_law_2261 (lv_at hl 0 rfl) ?_
      refine lv_i2l hx hb ddL_law_2263 rfl ?_
      refine W.lcmp hx hb ddL_law_2264 ?_
      refine lv_if_eq (tgt := 2270) hx hb ddL_law_2265 (by decide) (fun c9 => ?_) (fun c9 => ?_)
      · replace h := h.1 c9
        refine lv_goto (tgt := 2646) hx hb ddL_law_2270 (by decide) ?_
        exact kE _ _ _ _ _ _ ⟨by omega, by omega⟩ hS (lv_sub hl [2, 3, 4, 5, 6, 7] rfl) h
      · replace h := h.2 c9
        refine lv_iconst (v := (0 : Int32)) hx hb ddL_law_2268 (by decide) ?_
        exact h.elim
  · replace h := h.2 c7
    refine lv_iconst (v := (0 : Int32)) hx hb ddL_law_2251 (by decide) ?_
    exact h.elim
set_option maxHeartbeats 4000000 in
set_option maxRecDepth 100000 in
theorem lc_39 {p : Program} {l : Launch} {e : Env} {s : State} {m : MethodId} {below : List Frame} {meth : Method} {c : Code} {A : Nat → Prop} {X : GX} {b L : Nat} {xs : Nat → Int32} {Q : State → Prop} (hC : LC l X p s m meth c A b L xs) {x5 a1 a2 a3 a4 : Int32} {σ : Mem} {H : Heap} {locs : List Loc} {ls : Array Slot} {cells slots : Nat} (hj : LJ x5 L xs a1 a2 a3 a4) (hz0 : cells ≤ room_1.cells ∧ slots ≤ room_1.slots) (hz1 : cells + 3 ≤ room_1.cells ∧ slots + 18 ≤ room_1.slots) (hS : WS X A s.heap σ H locs) (hl : lv_has ls 9 [(0, .ref b), (1, .ref (ga X 0)), (2, .ref (ga X 25)), (3, .ref (ga X 34)), (4, .ref (ga X 35)), (5, .int x5)]) {B : Mem → Prop} (h : wplc_39 a1 a2 a3 a4 σ B) (kE : LE p l e s m below meth c A X b x5 Q B cells slots) : W p l e room_1 s m #[Value.ref b] below meth c H locs cells slots Q (F0 m 2273 ls []) := by
  obtain ⟨hx, hb, hml, hown, ht, hK, hZ, hA, hY, hX, hbl, hbA, hfl⟩ := hC
  obtain ⟨hj0, hj1, hj2, hj3, hj4, e1, e2, e3, e4⟩ := hj
  unfold wplc_39 at h
  refine lv_aload_n hx hb ddL_law_2273 rfl (lv_at hl 1 rfl) ?_
  refine lv_aload_n hx hb ddL_law_2274 rfl (lv_at hl 0 rfl) ?_
  refine lv_iload hx hb ddL_law_2275 (lv_at hl 5 rfl) ?_
  refine lv_iconst (v := (1 : Int32)) hx hb ddL_law_2277 (by decide) ?_
  refine lv_iadd hx hb ddL_law_2278 ?_
  refine va_sld hx hb hX hbl hbA hS.2.2 hj1 ddL_law_2279 ?_
  rw [e1]
  refine lv_aload_n hx hb ddL_law_2280 rfl (lv_at hl 3 rfl) ?_
  refine kw_SI (As := [.ref (ga X 0), .int a1, .ref (ga X 34)]) (rest := []) (c_L_outputCharacter l X hfl h) mfw_L_outputCharacter lk918 hx hb hml hown ht hK hZ hS hA hY ⟨rfl, rfl⟩ ⟨Nat.le_of_ble_eq_true rfl, Nat.le_of_ble_eq_true rfl⟩ rfl hl.1 rfl (Nat.le_of_ble_eq_true rfl) (hz_le hz1 (by decide)) ddL_law_2281 (fun r1 σ2 H locs hS h => ?_)
  refine lv_istore (lv' := [(6, .int r1), (0, .ref b), (1, .ref (ga X 0)), (2, .ref (ga X 25)), (3, .ref (ga X 34)), (4, .ref (ga X 35)), (5, .int x5)]) hx hb ddL_law_2284 hl (by decide) rfl (fun ls hl => ?_)
  refine lv_aload_n hx hb ddL_law_2286 rfl (lv_at hl 3 rfl) ?_
  refine lv_aload_n hx hb ddL_law_2287 rfl (lv_at hl 1 rfl) ?_
  refine lv_iload hx hb ddL_law_2288 (lv_at hl 6 rfl) ?_
  refine lv_iconst (v := (1 : Int32)) hx hb ddL_law_2290 (by decide) ?_
  refine lv_iadd hx hb ddL_law_2291 ?_
  refine va_sld hx hb hX hbl hbA hS.2.2 hj1 ddL_law_2292 ?_
  rw [e1]
  refine k_VI (As := [.int a1]) (rest := []) (c_X5_outputCharacter l X h) mf_X5_outputCharacter lk1456 hx hb hml hown ht hK hZ hS hA 25 5 rfl rfl rfl ⟨rfl, rfl⟩ ⟨Nat.le_of_ble_eq_true rfl, Nat.le_of_ble_eq_true rfl⟩ rfl hl.1 rfl (Nat.le_of_ble_eq_true rfl) (hz_le hz1 (by decide)) ddL_law_2293 (fun r4 σ3 H locs hS h => ?_)
  refine lv_istore (lv' := [(7, .int r4), (6, .int r1), (0, .ref b), (1, .ref (ga X 0)), (2, .ref (ga X 25)), (3, .ref (ga X 34)), (4, .ref (ga X 35)), (5, .int x5)]) hx hb ddL_law_2296 hl (by decide) rfl (fun ls hl => ?_)
  refine lv_aload_n hx hb ddL_law_2298 rfl (lv_at hl 4 rfl) ?_
  refine k_VI (As := []) (rest := []) (c_X5_thrown l X h) mf_X5_thrown lk1188 hx hb hml hown ht hK hZ hS hA 25 5 rfl rfl rfl ⟨rfl, rfl⟩ ⟨Nat.le_of_ble_eq_true rfl, Nat.le_of_ble_eq_true rfl⟩ rfl hl.1 rfl (Nat.le_of_ble_eq_true rfl) (hz_le hz1 (by decide)) ddL_law_2299 (fun r6 σ5 H locs hS h => ?_)
  refine lv_iload hx hb ddL_law_2302 (lv_at hl 1 rfl) ?_
  refine lv_icmp_eq (tgt := 2309) hx hb ddL_law_2304 (by decide) (fun c7 => ?_) (fun c7 => ?_)
  · replace h := h.1 c7
    refine lv_iload hx hb ddL_law_2309 (lv_at hl 1 rfl) ?_
    refine lv_if_ne (tgt := 2326) hx hb ddL_law_2311 (by decide) (fun c8 => ?_) (fun c8 => ?_)
    · replace h := h.1 c8
      refine lv_goto (tgt := 2646) hx hb ddL_law_2326 (by decide) ?_
      exact kE _ _ _ _ _ _ ⟨by omega, by omega⟩ hS (lv_sub hl [2, 3, 4, 5, 6, 7] rfl) h
    · replace h := h.2 c8
      refine lv_aload_n hx hb ddL_law_2314 rfl (lv_at hl 5 rfl) ?_
      refine lv_iconst (v := (0 : Int32)) hx hb ddL_law_2315 (by decide) ?_
      refine lald_34 hx hb hK hS ddL_law_2316 ?_
      refine lv_iload hx hb ddL_law_2317 (lv_at hl 0 rfl) ?_
      refine lv_i2l hx hb ddL_law_2319 rfl ?_
      refine W.lcmp hx hb ddL_law_2320 ?_
      refine lv_if_eq (tgt := 2326) hx hb ddL_law_2321 (by decide) (fun c9 => ?_) (fun c9 => ?_)
      · replace h := h.1 c9
        refine lv_goto (tgt := 2646) hx hb ddL_law_2326 (by decide) ?_
        exact kE _ _ _ _ _ _ ⟨by omega, by omega⟩ hS (lv_sub hl [2, 3, 4, 5, 6, 7] rfl) h
      · replace h := h.2 c9
        refine lv_iconst (v := (0 : Int32)) hx hb ddL_law_2324 (by decide) ?_
        exact h.elim
  · replace h := h.2 c7
    refine lv_iconst (v := (0 : Int32)) hx hb ddL_law_2307 (by decide) ?_
    exact h.elim
set_option maxHeartbeats 4000000 in
set_option maxRecDepth 100000 in
theorem lc_40 {p : Program} {l : Launch} {e : Env} {s : State} {m : MethodId} {below : List Frame} {meth : Method} {c : Code} {A : Nat → Prop} {X : GX} {b L : Nat} {xs : Nat → Int32} {Q : State → Prop} (hC : LC l X p s m meth c A b L xs) {x5 a1 a2 a3 a4 : Int32} {σ : Mem} {H : Heap} {locs : List Loc} {ls : Array Slot} {cells slots : Nat} (hj : LJ x5 L xs a1 a2 a3 a4) (hz0 : cells ≤ room_1.cells ∧ slots ≤ room_1.slots) (hz1 : cells + 3 ≤ room_1.cells ∧ slots + 18 ≤ room_1.slots) (hS : WS X A s.heap σ H locs) (hl : lv_has ls 9 [(0, .ref b), (1, .ref (ga X 0)), (2, .ref (ga X 25)), (3, .ref (ga X 34)), (4, .ref (ga X 35)), (5, .int x5)]) {B : Mem → Prop} (h : wplc_40 a1 a2 a3 a4 σ B) (kE : LE p l e s m below meth c A X b x5 Q B cells slots) : W p l e room_1 s m #[Value.ref b] below meth c H locs cells slots Q (F0 m 2329 ls []) := by
  obtain ⟨hx, hb, hml, hown, ht, hK, hZ, hA, hY, hX, hbl, hbA, hfl⟩ := hC
  obtain ⟨hj0, hj1, hj2, hj3, hj4, e1, e2, e3, e4⟩ := hj
  unfold wplc_40 at h
  refine lv_aload_n hx hb ddL_law_2329 rfl (lv_at hl 1 rfl) ?_
  refine k_VI (As := []) (rest := []) (c_X4_isConsistent l X h) mf_X4_isConsistent lk225 hx hb hml hown ht hK hZ hS hA 0 0 rfl rfl rfl ⟨rfl, rfl⟩ ⟨Nat.le_of_ble_eq_true rfl, Nat.le_of_ble_eq_true rfl⟩ rfl hl.1 rfl (Nat.le_of_ble_eq_true rfl) hz0 ddL_law_2330 (fun r2 σ1 H locs hS h => ?_)
  refine lv_aload_n hx hb ddL_law_2333 rfl (lv_at hl 2 rfl) ?_
  refine k_VI (As := []) (rest := [.int r2]) (c_X5_isConsistent l X h) mf_X5_isConsistent lk1460 hx hb hml hown ht hK hZ hS hA 25 5 rfl rfl rfl ⟨rfl, rfl⟩ ⟨Nat.le_of_ble_eq_true rfl, Nat.le_of_ble_eq_true rfl⟩ rfl hl.1 rfl (Nat.le_of_ble_eq_true rfl) hz0 ddL_law_2334 (fun r4 σ3 H locs hS h => ?_)
  refine lv_icmp_eq (tgt := 2646) hx hb ddL_law_2337 (by decide) (fun c5 => ?_) (fun c5 => ?_)
  · replace h := h.1 c5
    exact kE _ _ _ _ _ _ ⟨by omega, by omega⟩ hS (lv_sub hl [0, 1, 2, 3, 4, 5] rfl) h
  · replace h := h.2 c5
    refine lv_iconst (v := (0 : Int32)) hx hb ddL_law_2340 (by decide) ?_
    exact h.elim
set_option maxHeartbeats 4000000 in
set_option maxRecDepth 100000 in
theorem lc_41 {p : Program} {l : Launch} {e : Env} {s : State} {m : MethodId} {below : List Frame} {meth : Method} {c : Code} {A : Nat → Prop} {X : GX} {b L : Nat} {xs : Nat → Int32} {Q : State → Prop} (hC : LC l X p s m meth c A b L xs) {x5 a1 a2 a3 a4 : Int32} {σ : Mem} {H : Heap} {locs : List Loc} {ls : Array Slot} {cells slots : Nat} (hj : LJ x5 L xs a1 a2 a3 a4) (hz0 : cells ≤ room_1.cells ∧ slots ≤ room_1.slots) (hz1 : cells + 3 ≤ room_1.cells ∧ slots + 18 ≤ room_1.slots) (hS : WS X A s.heap σ H locs) (hl : lv_has ls 9 [(0, .ref b), (1, .ref (ga X 0)), (2, .ref (ga X 25)), (3, .ref (ga X 34)), (4, .ref (ga X 35)), (5, .int x5)]) {B : Mem → Prop} (h : wplc_41 a1 a2 a3 a4 σ B) (kE : LE p l e s m below meth c A X b x5 Q B cells slots) : W p l e room_1 s m #[Value.ref b] below meth c H locs cells slots Q (F0 m 2342 ls []) := by
  obtain ⟨hx, hb, hml, hown, ht, hK, hZ, hA, hY, hX, hbl, hbA, hfl⟩ := hC
  obtain ⟨hj0, hj1, hj2, hj3, hj4, e1, e2, e3, e4⟩ := hj
  unfold wplc_41 at h
  refine lv_aload_n hx hb ddL_law_2342 rfl (lv_at hl 1 rfl) ?_
  refine lv_aload_n hx hb ddL_law_2343 rfl (lv_at hl 0 rfl) ?_
  refine lv_iload hx hb ddL_law_2344 (lv_at hl 5 rfl) ?_
  refine lv_iconst (v := (1 : Int32)) hx hb ddL_law_2346 (by decide) ?_
  refine lv_iadd hx hb ddL_law_2347 ?_
  refine va_sld hx hb hX hbl hbA hS.2.2 hj1 ddL_law_2348 ?_
  rw [e1]
  refine lv_i2c hx hb ddL_law_2349 rfl ?_
  refine lv_aload_n hx hb ddL_law_2350 rfl (lv_at hl 3 rfl) ?_
  refine kw_SI (As := [.ref (ga X 0), .int ((a1.toUInt32 % 65536).toInt32), .ref (ga X 34)]) (rest := []) (c_L_feed l X hfl h) mfw_L_feed lk926 hx hb hml hown ht hK hZ hS hA hY ⟨rfl, rfl⟩ ⟨Nat.le_of_ble_eq_true rfl, Nat.le_of_ble_eq_true rfl⟩ rfl hl.1 rfl (Nat.le_of_ble_eq_true rfl) (hz_le hz1 (by decide)) ddL_law_2351 (fun r1 σ2 H locs hS h => ?_)
  refine lv_istore (lv' := [(6, .int r1), (0, .ref b), (1, .ref (ga X 0)), (2, .ref (ga X 25)), (3, .ref (ga X 34)), (4, .ref (ga X 35)), (5, .int x5)]) hx hb ddL_law_2354 hl (by decide) rfl (fun ls hl => ?_)
  refine lv_aload_n hx hb ddL_law_2356 rfl (lv_at hl 3 rfl) ?_
  refine lv_aload_n hx hb ddL_law_2357 rfl (lv_at hl 1 rfl) ?_
  refine lv_iload hx hb ddL_law_2358 (lv_at hl 6 rfl) ?_
  refine lv_iconst (v := (1 : Int32)) hx hb ddL_law_2360 (by decide) ?_
  refine lv_iadd hx hb ddL_law_2361 ?_
  refine va_sld hx hb hX hbl hbA hS.2.2 hj1 ddL_law_2362 ?_
  rw [e1]
  refine lv_i2c hx hb ddL_law_2363 rfl ?_
  refine k_VI (As := [.int ((a1.toUInt32 % 65536).toInt32)]) (rest := []) (c_X5_feed l X h) mf_X5_feed lk1464 hx hb hml hown ht hK hZ hS hA 25 5 rfl rfl rfl ⟨rfl, rfl⟩ ⟨Nat.le_of_ble_eq_true rfl, Nat.le_of_ble_eq_true rfl⟩ rfl hl.1 rfl (Nat.le_of_ble_eq_true rfl) (hz_le hz1 (by decide)) ddL_law_2364 (fun r4 σ3 H locs hS h => ?_)
  refine lv_istore (lv' := [(7, .int r4), (6, .int r1), (0, .ref b), (1, .ref (ga X 0)), (2, .ref (ga X 25)), (3, .ref (ga X 34)), (4, .ref (ga X 35)), (5, .int x5)]) hx hb ddL_law_2367 hl (by decide) rfl (fun ls hl => ?_)
  refine lv_aload_n hx hb ddL_law_2369 rfl (lv_at hl 4 rfl) ?_
  refine k_VI (As := []) (rest := []) (c_X5_thrown l X h) mf_X5_thrown lk1188 hx hb hml hown ht hK hZ hS hA 25 5 rfl rfl rfl ⟨rfl, rfl⟩ ⟨Nat.le_of_ble_eq_true rfl, Nat.le_of_ble_eq_true rfl⟩ rfl hl.1 rfl (Nat.le_of_ble_eq_true rfl) (hz_le hz1 (by decide)) ddL_law_2370 (fun r6 σ5 H locs hS h => ?_)
  refine lv_iload hx hb ddL_law_2373 (lv_at hl 1 rfl) ?_
  refine lv_icmp_eq (tgt := 2380) hx hb ddL_law_2375 (by decide) (fun c7 => ?_) (fun c7 => ?_)
  · replace h := h.1 c7
    refine lv_iload hx hb ddL_law_2380 (lv_at hl 1 rfl) ?_
    refine lv_if_ne (tgt := 2397) hx hb ddL_law_2382 (by decide) (fun c8 => ?_) (fun c8 => ?_)
    · replace h := h.1 c8
      refine lv_goto (tgt := 2646) hx hb ddL_law_2397 (by decide) ?_
      exact kE _ _ _ _ _ _ ⟨by omega, by omega⟩ hS (lv_sub hl [2, 3, 4, 5, 6, 7] rfl) h
    · replace h := h.2 c8
      refine lv_aload_n hx hb ddL_law_2385 rfl (lv_at hl 5 rfl) ?_
      refine lv_iconst (v := (0 : Int32)) hx hb ddL_law_2386 (by decide) ?_
      refine lald_34 hx hb hK hS ddL_law_2387 ?_
      refine lv_iload hx hb ddL_law_2388 (lv_at hl 0 rfl) ?_
      refine lv_i2l hx hb ddL_law_2390 rfl ?_
      refine W.lcmp hx hb ddL_law_2391 ?_
      refine lv_if_eq (tgt := 2397) hx hb ddL_law_2392 (by decide) (fun c9 => ?_) (fun c9 => ?_)
      · replace h := h.1 c9
        refine lv_goto (tgt := 2646) hx hb ddL_law_2397 (by decide) ?_
        exact kE _ _ _ _ _ _ ⟨by omega, by omega⟩ hS (lv_sub hl [2, 3, 4, 5, 6, 7] rfl) h
      · replace h := h.2 c9
        refine lv_iconst (v := (0 : Int32)) hx hb ddL_law_2395 (by decide) ?_
        exact h.elim
  · replace h := h.2 c7
    refine lv_iconst (v := (0 : Int32)) hx hb ddL_law_2378 (by decide) ?_
    exact h.elim
set_option maxHeartbeats 4000000 in
set_option maxRecDepth 100000 in
theorem lc_42 {p : Program} {l : Launch} {e : Env} {s : State} {m : MethodId} {below : List Frame} {meth : Method} {c : Code} {A : Nat → Prop} {X : GX} {b L : Nat} {xs : Nat → Int32} {Q : State → Prop} (hC : LC l X p s m meth c A b L xs) {x5 a1 a2 a3 a4 : Int32} {σ : Mem} {H : Heap} {locs : List Loc} {ls : Array Slot} {cells slots : Nat} (hj : LJ x5 L xs a1 a2 a3 a4) (hz0 : cells ≤ room_1.cells ∧ slots ≤ room_1.slots) (hz1 : cells + 3 ≤ room_1.cells ∧ slots + 18 ≤ room_1.slots) (hS : WS X A s.heap σ H locs) (hl : lv_has ls 9 [(0, .ref b), (1, .ref (ga X 0)), (2, .ref (ga X 25)), (3, .ref (ga X 34)), (4, .ref (ga X 35)), (5, .int x5)]) {B : Mem → Prop} (h : wplc_42 a1 a2 a3 a4 σ B) (kE : LE p l e s m below meth c A X b x5 Q B cells slots) : W p l e room_1 s m #[Value.ref b] below meth c H locs cells slots Q (F0 m 2400 ls []) := by
  obtain ⟨hx, hb, hml, hown, ht, hK, hZ, hA, hY, hX, hbl, hbA, hfl⟩ := hC
  obtain ⟨hj0, hj1, hj2, hj3, hj4, e1, e2, e3, e4⟩ := hj
  unfold wplc_42 at h
  refine lv_aload_n hx hb ddL_law_2400 rfl (lv_at hl 1 rfl) ?_
  refine lv_aload_n hx hb ddL_law_2401 rfl (lv_at hl 3 rfl) ?_
  refine kw_SI (As := [.ref (ga X 0), .ref (ga X 34)]) (rest := []) (c_L_execute l X hfl h) mfw_L_execute lk942 hx hb hml hown ht hK hZ hS hA hY ⟨rfl, rfl⟩ ⟨Nat.le_of_ble_eq_true rfl, Nat.le_of_ble_eq_true rfl⟩ rfl hl.1 rfl (Nat.le_of_ble_eq_true rfl) (hz_le hz1 (by decide)) ddL_law_2402 (fun r1 σ2 H locs hS h => ?_)
  refine lv_istore (lv' := [(6, .int r1), (0, .ref b), (1, .ref (ga X 0)), (2, .ref (ga X 25)), (3, .ref (ga X 34)), (4, .ref (ga X 35)), (5, .int x5)]) hx hb ddL_law_2405 hl (by decide) rfl (fun ls hl => ?_)
  refine lv_aload_n hx hb ddL_law_2407 rfl (lv_at hl 3 rfl) ?_
  refine k_VI (As := []) (rest := []) (c_X5_execute l X h) mf_X5_execute lk1468 hx hb hml hown ht hK hZ hS hA 25 5 rfl rfl rfl ⟨rfl, rfl⟩ ⟨Nat.le_of_ble_eq_true rfl, Nat.le_of_ble_eq_true rfl⟩ rfl hl.1 rfl (Nat.le_of_ble_eq_true rfl) (hz_le hz1 (by decide)) ddL_law_2408 (fun r4 σ3 H locs hS h => ?_)
  refine lv_istore (lv' := [(7, .int r4), (6, .int r1), (0, .ref b), (1, .ref (ga X 0)), (2, .ref (ga X 25)), (3, .ref (ga X 34)), (4, .ref (ga X 35)), (5, .int x5)]) hx hb ddL_law_2411 hl (by decide) rfl (fun ls hl => ?_)
  refine lv_aload_n hx hb ddL_law_2413 rfl (lv_at hl 4 rfl) ?_
  refine k_VI (As := []) (rest := []) (c_X5_thrown l X h) mf_X5_thrown lk1188 hx hb hml hown ht hK hZ hS hA 25 5 rfl rfl rfl ⟨rfl, rfl⟩ ⟨Nat.le_of_ble_eq_true rfl, Nat.le_of_ble_eq_true rfl⟩ rfl hl.1 rfl (Nat.le_of_ble_eq_true rfl) (hz_le hz1 (by decide)) ddL_law_2414 (fun r6 σ5 H locs hS h => ?_)
  refine lv_iload hx hb ddL_law_2417 (lv_at hl 1 rfl) ?_
  refine lv_icmp_eq (tgt := 2424) hx hb ddL_law_2419 (by decide) (fun c7 => ?_) (fun c7 => ?_)
  · replace h := h.1 c7
    refine lv_iload hx hb ddL_law_2424 (lv_at hl 1 rfl) ?_
    refine lv_if_ne (tgt := 2441) hx hb ddL_law_2426 (by decide) (fun c8 => ?_) (fun c8 => ?_)
    · replace h := h.1 c8
      refine lv_goto (tgt := 2646) hx hb ddL_law_2441 (by decide) ?_
      exact kE _ _ _ _ _ _ ⟨by omega, by omega⟩ hS (lv_sub hl [2, 3, 4, 5, 6, 7] rfl) h
    · replace h := h.2 c8
      refine lv_aload_n hx hb ddL_law_2429 rfl (lv_at hl 5 rfl) ?_
      refine lv_iconst (v := (0 : Int32)) hx hb ddL_law_2430 (by decide) ?_
      refine lald_34 hx hb hK hS ddL_law_2431 ?_
      refine lv_iload hx hb ddL_law_2432 (lv_at hl 0 rfl) ?_
      refine lv_i2l hx hb ddL_law_2434 rfl ?_
      refine W.lcmp hx hb ddL_law_2435 ?_
      refine lv_if_eq (tgt := 2441) hx hb ddL_law_2436 (by decide) (fun c9 => ?_) (fun c9 => ?_)
      · replace h := h.1 c9
        refine lv_goto (tgt := 2646) hx hb ddL_law_2441 (by decide) ?_
        exact kE _ _ _ _ _ _ ⟨by omega, by omega⟩ hS (lv_sub hl [2, 3, 4, 5, 6, 7] rfl) h
      · replace h := h.2 c9
        refine lv_iconst (v := (0 : Int32)) hx hb ddL_law_2439 (by decide) ?_
        exact h.elim
  · replace h := h.2 c7
    refine lv_iconst (v := (0 : Int32)) hx hb ddL_law_2422 (by decide) ?_
    exact h.elim
set_option maxHeartbeats 4000000 in
set_option maxRecDepth 100000 in
theorem lc_43 {p : Program} {l : Launch} {e : Env} {s : State} {m : MethodId} {below : List Frame} {meth : Method} {c : Code} {A : Nat → Prop} {X : GX} {b L : Nat} {xs : Nat → Int32} {Q : State → Prop} (hC : LC l X p s m meth c A b L xs) {x5 a1 a2 a3 a4 : Int32} {σ : Mem} {H : Heap} {locs : List Loc} {ls : Array Slot} {cells slots : Nat} (hj : LJ x5 L xs a1 a2 a3 a4) (hz0 : cells ≤ room_1.cells ∧ slots ≤ room_1.slots) (hz1 : cells + 3 ≤ room_1.cells ∧ slots + 18 ≤ room_1.slots) (hS : WS X A s.heap σ H locs) (hl : lv_has ls 9 [(0, .ref b), (1, .ref (ga X 0)), (2, .ref (ga X 25)), (3, .ref (ga X 34)), (4, .ref (ga X 35)), (5, .int x5)]) {B : Mem → Prop} (h : wplc_43 a1 a2 a3 a4 σ B) (kE : LE p l e s m below meth c A X b x5 Q B cells slots) : W p l e room_1 s m #[Value.ref b] below meth c H locs cells slots Q (F0 m 2444 ls []) := by
  obtain ⟨hx, hb, hml, hown, ht, hK, hZ, hA, hY, hX, hbl, hbA, hfl⟩ := hC
  obtain ⟨hj0, hj1, hj2, hj3, hj4, e1, e2, e3, e4⟩ := hj
  unfold wplc_43 at h
  refine lv_aload_n hx hb ddL_law_2444 rfl (lv_at hl 1 rfl) ?_
  refine lv_aload_n hx hb ddL_law_2445 rfl (lv_at hl 3 rfl) ?_
  refine kw_SI (As := [.ref (ga X 0), .ref (ga X 34)]) (rest := []) (c_L_errorPosition l X hfl h) mfw_L_errorPosition lk1076 hx hb hml hown ht hK hZ hS hA hY ⟨rfl, rfl⟩ ⟨Nat.le_of_ble_eq_true rfl, Nat.le_of_ble_eq_true rfl⟩ rfl hl.1 rfl (Nat.le_of_ble_eq_true rfl) (hz_le hz1 (by decide)) ddL_law_2446 (fun r1 σ2 H locs hS h => ?_)
  refine lv_istore (lv' := [(6, .int r1), (0, .ref b), (1, .ref (ga X 0)), (2, .ref (ga X 25)), (3, .ref (ga X 34)), (4, .ref (ga X 35)), (5, .int x5)]) hx hb ddL_law_2449 hl (by decide) rfl (fun ls hl => ?_)
  refine lv_aload_n hx hb ddL_law_2451 rfl (lv_at hl 3 rfl) ?_
  refine k_VI (As := []) (rest := []) (c_X5_errorPosition l X h) mf_X5_errorPosition lk1526 hx hb hml hown ht hK hZ hS hA 25 5 rfl rfl rfl ⟨rfl, rfl⟩ ⟨Nat.le_of_ble_eq_true rfl, Nat.le_of_ble_eq_true rfl⟩ rfl hl.1 rfl (Nat.le_of_ble_eq_true rfl) (hz_le hz1 (by decide)) ddL_law_2452 (fun r4 σ3 H locs hS h => ?_)
  refine lv_istore (lv' := [(7, .int r4), (6, .int r1), (0, .ref b), (1, .ref (ga X 0)), (2, .ref (ga X 25)), (3, .ref (ga X 34)), (4, .ref (ga X 35)), (5, .int x5)]) hx hb ddL_law_2455 hl (by decide) rfl (fun ls hl => ?_)
  refine lv_aload_n hx hb ddL_law_2457 rfl (lv_at hl 4 rfl) ?_
  refine k_VI (As := []) (rest := []) (c_X5_thrown l X h) mf_X5_thrown lk1188 hx hb hml hown ht hK hZ hS hA 25 5 rfl rfl rfl ⟨rfl, rfl⟩ ⟨Nat.le_of_ble_eq_true rfl, Nat.le_of_ble_eq_true rfl⟩ rfl hl.1 rfl (Nat.le_of_ble_eq_true rfl) (hz_le hz1 (by decide)) ddL_law_2458 (fun r6 σ5 H locs hS h => ?_)
  refine lv_iload hx hb ddL_law_2461 (lv_at hl 1 rfl) ?_
  refine lv_icmp_eq (tgt := 2468) hx hb ddL_law_2463 (by decide) (fun c7 => ?_) (fun c7 => ?_)
  · replace h := h.1 c7
    refine lv_iload hx hb ddL_law_2468 (lv_at hl 1 rfl) ?_
    refine lv_if_ne (tgt := 2485) hx hb ddL_law_2470 (by decide) (fun c8 => ?_) (fun c8 => ?_)
    · replace h := h.1 c8
      refine lv_goto (tgt := 2646) hx hb ddL_law_2485 (by decide) ?_
      exact kE _ _ _ _ _ _ ⟨by omega, by omega⟩ hS (lv_sub hl [2, 3, 4, 5, 6, 7] rfl) h
    · replace h := h.2 c8
      refine lv_aload_n hx hb ddL_law_2473 rfl (lv_at hl 5 rfl) ?_
      refine lv_iconst (v := (0 : Int32)) hx hb ddL_law_2474 (by decide) ?_
      refine lald_34 hx hb hK hS ddL_law_2475 ?_
      refine lv_iload hx hb ddL_law_2476 (lv_at hl 0 rfl) ?_
      refine lv_i2l hx hb ddL_law_2478 rfl ?_
      refine W.lcmp hx hb ddL_law_2479 ?_
      refine lv_if_eq (tgt := 2485) hx hb ddL_law_2480 (by decide) (fun c9 => ?_) (fun c9 => ?_)
      · replace h := h.1 c9
        refine lv_goto (tgt := 2646) hx hb ddL_law_2485 (by decide) ?_
        exact kE _ _ _ _ _ _ ⟨by omega, by omega⟩ hS (lv_sub hl [2, 3, 4, 5, 6, 7] rfl) h
      · replace h := h.2 c9
        refine lv_iconst (v := (0 : Int32)) hx hb ddL_law_2483 (by decide) ?_
        exact h.elim
  · replace h := h.2 c7
    refine lv_iconst (v := (0 : Int32)) hx hb ddL_law_2466 (by decide) ?_
    exact h.elim
set_option maxHeartbeats 4000000 in
set_option maxRecDepth 100000 in
theorem lc_44 {p : Program} {l : Launch} {e : Env} {s : State} {m : MethodId} {below : List Frame} {meth : Method} {c : Code} {A : Nat → Prop} {X : GX} {b L : Nat} {xs : Nat → Int32} {Q : State → Prop} (hC : LC l X p s m meth c A b L xs) {x5 a1 a2 a3 a4 : Int32} {σ : Mem} {H : Heap} {locs : List Loc} {ls : Array Slot} {cells slots : Nat} (hj : LJ x5 L xs a1 a2 a3 a4) (hz0 : cells ≤ room_1.cells ∧ slots ≤ room_1.slots) (hz1 : cells + 3 ≤ room_1.cells ∧ slots + 18 ≤ room_1.slots) (hS : WS X A s.heap σ H locs) (hl : lv_has ls 9 [(0, .ref b), (1, .ref (ga X 0)), (2, .ref (ga X 25)), (3, .ref (ga X 34)), (4, .ref (ga X 35)), (5, .int x5)]) {B : Mem → Prop} (h : wplc_44 a1 a2 a3 a4 σ B) (kE : LE p l e s m below meth c A X b x5 Q B cells slots) : W p l e room_1 s m #[Value.ref b] below meth c H locs cells slots Q (F0 m 2488 ls []) := by
  obtain ⟨hx, hb, hml, hown, ht, hK, hZ, hA, hY, hX, hbl, hbA, hfl⟩ := hC
  obtain ⟨hj0, hj1, hj2, hj3, hj4, e1, e2, e3, e4⟩ := hj
  unfold wplc_44 at h
  refine lv_aload_n hx hb ddL_law_2488 rfl (lv_at hl 1 rfl) ?_
  refine lv_aload_n hx hb ddL_law_2489 rfl (lv_at hl 3 rfl) ?_
  refine kw_SI (As := [.ref (ga X 0), .ref (ga X 34)]) (rest := []) (c_L_failedCommand l X hfl h) mfw_L_failedCommand lk1084 hx hb hml hown ht hK hZ hS hA hY ⟨rfl, rfl⟩ ⟨Nat.le_of_ble_eq_true rfl, Nat.le_of_ble_eq_true rfl⟩ rfl hl.1 rfl (Nat.le_of_ble_eq_true rfl) (hz_le hz1 (by decide)) ddL_law_2490 (fun r1 σ2 H locs hS h => ?_)
  refine lv_istore (lv' := [(6, .int r1), (0, .ref b), (1, .ref (ga X 0)), (2, .ref (ga X 25)), (3, .ref (ga X 34)), (4, .ref (ga X 35)), (5, .int x5)]) hx hb ddL_law_2493 hl (by decide) rfl (fun ls hl => ?_)
  refine lv_aload_n hx hb ddL_law_2495 rfl (lv_at hl 3 rfl) ?_
  refine k_VI (As := []) (rest := []) (c_X5_failedCommand l X h) mf_X5_failedCommand lk1530 hx hb hml hown ht hK hZ hS hA 25 5 rfl rfl rfl ⟨rfl, rfl⟩ ⟨Nat.le_of_ble_eq_true rfl, Nat.le_of_ble_eq_true rfl⟩ rfl hl.1 rfl (Nat.le_of_ble_eq_true rfl) (hz_le hz1 (by decide)) ddL_law_2496 (fun r4 σ3 H locs hS h => ?_)
  refine lv_istore (lv' := [(7, .int r4), (6, .int r1), (0, .ref b), (1, .ref (ga X 0)), (2, .ref (ga X 25)), (3, .ref (ga X 34)), (4, .ref (ga X 35)), (5, .int x5)]) hx hb ddL_law_2499 hl (by decide) rfl (fun ls hl => ?_)
  refine lv_aload_n hx hb ddL_law_2501 rfl (lv_at hl 4 rfl) ?_
  refine k_VI (As := []) (rest := []) (c_X5_thrown l X h) mf_X5_thrown lk1188 hx hb hml hown ht hK hZ hS hA 25 5 rfl rfl rfl ⟨rfl, rfl⟩ ⟨Nat.le_of_ble_eq_true rfl, Nat.le_of_ble_eq_true rfl⟩ rfl hl.1 rfl (Nat.le_of_ble_eq_true rfl) (hz_le hz1 (by decide)) ddL_law_2502 (fun r6 σ5 H locs hS h => ?_)
  refine lv_iload hx hb ddL_law_2505 (lv_at hl 1 rfl) ?_
  refine lv_icmp_eq (tgt := 2512) hx hb ddL_law_2507 (by decide) (fun c7 => ?_) (fun c7 => ?_)
  · replace h := h.1 c7
    refine lv_iload hx hb ddL_law_2512 (lv_at hl 1 rfl) ?_
    refine lv_if_ne (tgt := 2529) hx hb ddL_law_2514 (by decide) (fun c8 => ?_) (fun c8 => ?_)
    · replace h := h.1 c8
      refine lv_goto (tgt := 2646) hx hb ddL_law_2529 (by decide) ?_
      exact kE _ _ _ _ _ _ ⟨by omega, by omega⟩ hS (lv_sub hl [2, 3, 4, 5, 6, 7] rfl) h
    · replace h := h.2 c8
      refine lv_aload_n hx hb ddL_law_2517 rfl (lv_at hl 5 rfl) ?_
      refine lv_iconst (v := (0 : Int32)) hx hb ddL_law_2518 (by decide) ?_
      refine lald_34 hx hb hK hS ddL_law_2519 ?_
      refine lv_iload hx hb ddL_law_2520 (lv_at hl 0 rfl) ?_
      refine lv_i2l hx hb ddL_law_2522 rfl ?_
      refine W.lcmp hx hb ddL_law_2523 ?_
      refine lv_if_eq (tgt := 2529) hx hb ddL_law_2524 (by decide) (fun c9 => ?_) (fun c9 => ?_)
      · replace h := h.1 c9
        refine lv_goto (tgt := 2646) hx hb ddL_law_2529 (by decide) ?_
        exact kE _ _ _ _ _ _ ⟨by omega, by omega⟩ hS (lv_sub hl [2, 3, 4, 5, 6, 7] rfl) h
      · replace h := h.2 c9
        refine lv_iconst (v := (0 : Int32)) hx hb ddL_law_2527 (by decide) ?_
        exact h.elim
  · replace h := h.2 c7
    refine lv_iconst (v := (0 : Int32)) hx hb ddL_law_2510 (by decide) ?_
    exact h.elim
set_option maxHeartbeats 4000000 in
set_option maxRecDepth 100000 in
theorem lc_45 {p : Program} {l : Launch} {e : Env} {s : State} {m : MethodId} {below : List Frame} {meth : Method} {c : Code} {A : Nat → Prop} {X : GX} {b L : Nat} {xs : Nat → Int32} {Q : State → Prop} (hC : LC l X p s m meth c A b L xs) {x5 a1 a2 a3 a4 : Int32} {σ : Mem} {H : Heap} {locs : List Loc} {ls : Array Slot} {cells slots : Nat} (hj : LJ x5 L xs a1 a2 a3 a4) (hz0 : cells ≤ room_1.cells ∧ slots ≤ room_1.slots) (hz1 : cells + 3 ≤ room_1.cells ∧ slots + 18 ≤ room_1.slots) (hS : WS X A s.heap σ H locs) (hl : lv_has ls 9 [(0, .ref b), (1, .ref (ga X 0)), (2, .ref (ga X 25)), (3, .ref (ga X 34)), (4, .ref (ga X 35)), (5, .int x5)]) {B : Mem → Prop} (h : wplc_45 a1 a2 a3 a4 σ B) (kE : LE p l e s m below meth c A X b x5 Q B cells slots) : W p l e room_1 s m #[Value.ref b] below meth c H locs cells slots Q (F0 m 2532 ls []) := by
  obtain ⟨hx, hb, hml, hown, ht, hK, hZ, hA, hY, hX, hbl, hbA, hfl⟩ := hC
  obtain ⟨hj0, hj1, hj2, hj3, hj4, e1, e2, e3, e4⟩ := hj
  unfold wplc_45 at h
  refine lv_aload_n hx hb ddL_law_2532 rfl (lv_at hl 1 rfl) ?_
  refine lv_aload_n hx hb ddL_law_2533 rfl (lv_at hl 3 rfl) ?_
  refine kw_SI (As := [.ref (ga X 0), .ref (ga X 34)]) (rest := []) (c_L_undo l X hfl h) mfw_L_undo lk1092 hx hb hml hown ht hK hZ hS hA hY ⟨rfl, rfl⟩ ⟨Nat.le_of_ble_eq_true rfl, Nat.le_of_ble_eq_true rfl⟩ rfl hl.1 rfl (Nat.le_of_ble_eq_true rfl) (hz_le hz1 (by decide)) ddL_law_2534 (fun r1 σ2 H locs hS h => ?_)
  refine lv_istore (lv' := [(6, .int r1), (0, .ref b), (1, .ref (ga X 0)), (2, .ref (ga X 25)), (3, .ref (ga X 34)), (4, .ref (ga X 35)), (5, .int x5)]) hx hb ddL_law_2537 hl (by decide) rfl (fun ls hl => ?_)
  refine lv_aload_n hx hb ddL_law_2539 rfl (lv_at hl 3 rfl) ?_
  refine k_VI (As := []) (rest := []) (c_X5_undo l X h) mf_X5_undo lk1534 hx hb hml hown ht hK hZ hS hA 25 5 rfl rfl rfl ⟨rfl, rfl⟩ ⟨Nat.le_of_ble_eq_true rfl, Nat.le_of_ble_eq_true rfl⟩ rfl hl.1 rfl (Nat.le_of_ble_eq_true rfl) (hz_le hz1 (by decide)) ddL_law_2540 (fun r4 σ3 H locs hS h => ?_)
  refine lv_istore (lv' := [(7, .int r4), (6, .int r1), (0, .ref b), (1, .ref (ga X 0)), (2, .ref (ga X 25)), (3, .ref (ga X 34)), (4, .ref (ga X 35)), (5, .int x5)]) hx hb ddL_law_2543 hl (by decide) rfl (fun ls hl => ?_)
  refine lv_aload_n hx hb ddL_law_2545 rfl (lv_at hl 4 rfl) ?_
  refine k_VI (As := []) (rest := []) (c_X5_thrown l X h) mf_X5_thrown lk1188 hx hb hml hown ht hK hZ hS hA 25 5 rfl rfl rfl ⟨rfl, rfl⟩ ⟨Nat.le_of_ble_eq_true rfl, Nat.le_of_ble_eq_true rfl⟩ rfl hl.1 rfl (Nat.le_of_ble_eq_true rfl) (hz_le hz1 (by decide)) ddL_law_2546 (fun r6 σ5 H locs hS h => ?_)
  refine lv_iload hx hb ddL_law_2549 (lv_at hl 1 rfl) ?_
  refine lv_icmp_eq (tgt := 2556) hx hb ddL_law_2551 (by decide) (fun c7 => ?_) (fun c7 => ?_)
  · replace h := h.1 c7
    refine lv_iload hx hb ddL_law_2556 (lv_at hl 1 rfl) ?_
    refine lv_if_ne (tgt := 2573) hx hb ddL_law_2558 (by decide) (fun c8 => ?_) (fun c8 => ?_)
    · replace h := h.1 c8
      refine lv_goto (tgt := 2646) hx hb ddL_law_2573 (by decide) ?_
      exact kE _ _ _ _ _ _ ⟨by omega, by omega⟩ hS (lv_sub hl [2, 3, 4, 5, 6, 7] rfl) h
    · replace h := h.2 c8
      refine lv_aload_n hx hb ddL_law_2561 rfl (lv_at hl 5 rfl) ?_
      refine lv_iconst (v := (0 : Int32)) hx hb ddL_law_2562 (by decide) ?_
      refine lald_34 hx hb hK hS ddL_law_2563 ?_
      refine lv_iload hx hb ddL_law_2564 (lv_at hl 0 rfl) ?_
      refine lv_i2l hx hb ddL_law_2566 rfl ?_
      refine W.lcmp hx hb ddL_law_2567 ?_
      refine lv_if_eq (tgt := 2573) hx hb ddL_law_2568 (by decide) (fun c9 => ?_) (fun c9 => ?_)
      · replace h := h.1 c9
        refine lv_goto (tgt := 2646) hx hb ddL_law_2573 (by decide) ?_
        exact kE _ _ _ _ _ _ ⟨by omega, by omega⟩ hS (lv_sub hl [2, 3, 4, 5, 6, 7] rfl) h
      · replace h := h.2 c9
        refine lv_iconst (v := (0 : Int32)) hx hb ddL_law_2571 (by decide) ?_
        exact h.elim
  · replace h := h.2 c7
    refine lv_iconst (v := (0 : Int32)) hx hb ddL_law_2554 (by decide) ?_
    exact h.elim
set_option maxHeartbeats 4000000 in
set_option maxRecDepth 100000 in
theorem lc_46 {p : Program} {l : Launch} {e : Env} {s : State} {m : MethodId} {below : List Frame} {meth : Method} {c : Code} {A : Nat → Prop} {X : GX} {b L : Nat} {xs : Nat → Int32} {Q : State → Prop} (hC : LC l X p s m meth c A b L xs) {x5 a1 a2 a3 a4 : Int32} {σ : Mem} {H : Heap} {locs : List Loc} {ls : Array Slot} {cells slots : Nat} (hj : LJ x5 L xs a1 a2 a3 a4) (hz0 : cells ≤ room_1.cells ∧ slots ≤ room_1.slots) (hz1 : cells + 3 ≤ room_1.cells ∧ slots + 18 ≤ room_1.slots) (hS : WS X A s.heap σ H locs) (hl : lv_has ls 9 [(0, .ref b), (1, .ref (ga X 0)), (2, .ref (ga X 25)), (3, .ref (ga X 34)), (4, .ref (ga X 35)), (5, .int x5)]) {B : Mem → Prop} (h : wplc_46 a1 a2 a3 a4 σ B) (kE : LE p l e s m below meth c A X b x5 Q B cells slots) : W p l e room_1 s m #[Value.ref b] below meth c H locs cells slots Q (F0 m 2576 ls []) := by
  obtain ⟨hx, hb, hml, hown, ht, hK, hZ, hA, hY, hX, hbl, hbA, hfl⟩ := hC
  obtain ⟨hj0, hj1, hj2, hj3, hj4, e1, e2, e3, e4⟩ := hj
  unfold wplc_46 at h
  refine lv_aload_n hx hb ddL_law_2576 rfl (lv_at hl 1 rfl) ?_
  refine k_VI (As := []) (rest := []) (c_X4_undoCount l X h) mf_X4_undoCount lk376 hx hb hml hown ht hK hZ hS hA 0 0 rfl rfl rfl ⟨rfl, rfl⟩ ⟨Nat.le_of_ble_eq_true rfl, Nat.le_of_ble_eq_true rfl⟩ rfl hl.1 rfl (Nat.le_of_ble_eq_true rfl) hz0 ddL_law_2577 (fun r2 σ1 H locs hS h => ?_)
  refine lv_aload_n hx hb ddL_law_2580 rfl (lv_at hl 2 rfl) ?_
  refine k_VI (As := []) (rest := [.int r2]) (c_X5_undoCount l X h) mf_X5_undoCount lk1538 hx hb hml hown ht hK hZ hS hA 25 5 rfl rfl rfl ⟨rfl, rfl⟩ ⟨Nat.le_of_ble_eq_true rfl, Nat.le_of_ble_eq_true rfl⟩ rfl hl.1 rfl (Nat.le_of_ble_eq_true rfl) hz0 ddL_law_2581 (fun r4 σ3 H locs hS h => ?_)
  refine lv_icmp_eq (tgt := 2646) hx hb ddL_law_2584 (by decide) (fun c5 => ?_) (fun c5 => ?_)
  · replace h := h.1 c5
    exact kE _ _ _ _ _ _ ⟨by omega, by omega⟩ hS (lv_sub hl [0, 1, 2, 3, 4, 5] rfl) h
  · replace h := h.2 c5
    refine lv_iconst (v := (0 : Int32)) hx hb ddL_law_2587 (by decide) ?_
    exact h.elim
set_option maxHeartbeats 4000000 in
set_option maxRecDepth 100000 in
theorem lc_47 {p : Program} {l : Launch} {e : Env} {s : State} {m : MethodId} {below : List Frame} {meth : Method} {c : Code} {A : Nat → Prop} {X : GX} {b L : Nat} {xs : Nat → Int32} {Q : State → Prop} (hC : LC l X p s m meth c A b L xs) {x5 a1 a2 a3 a4 : Int32} {σ : Mem} {H : Heap} {locs : List Loc} {ls : Array Slot} {cells slots : Nat} (hj : LJ x5 L xs a1 a2 a3 a4) (hz0 : cells ≤ room_1.cells ∧ slots ≤ room_1.slots) (hz1 : cells + 3 ≤ room_1.cells ∧ slots + 18 ≤ room_1.slots) (hS : WS X A s.heap σ H locs) (hl : lv_has ls 9 [(0, .ref b), (1, .ref (ga X 0)), (2, .ref (ga X 25)), (3, .ref (ga X 34)), (4, .ref (ga X 35)), (5, .int x5)]) {B : Mem → Prop} (h : wplc_47 a1 a2 a3 a4 σ B) (kE : LE p l e s m below meth c A X b x5 Q B cells slots) : W p l e room_1 s m #[Value.ref b] below meth c H locs cells slots Q (F0 m 2589 ls []) := by
  obtain ⟨hx, hb, hml, hown, ht, hK, hZ, hA, hY, hX, hbl, hbA, hfl⟩ := hC
  obtain ⟨hj0, hj1, hj2, hj3, hj4, e1, e2, e3, e4⟩ := hj
  unfold wplc_47 at h
  refine lv_aload_n hx hb ddL_law_2589 rfl (lv_at hl 1 rfl) ?_
  refine k_VI (As := []) (rest := []) (c_X4_save l X h) mf_X4_save lk384 hx hb hml hown ht hK hZ hS hA 0 0 rfl rfl rfl ⟨rfl, rfl⟩ ⟨Nat.le_of_ble_eq_true rfl, Nat.le_of_ble_eq_true rfl⟩ rfl hl.1 rfl (Nat.le_of_ble_eq_true rfl) hz0 ddL_law_2590 (fun r2 σ1 H locs hS h => ?_)
  refine lv_aload_n hx hb ddL_law_2593 rfl (lv_at hl 2 rfl) ?_
  refine k_VI (As := []) (rest := [.int r2]) (c_X5_save l X h) mf_X5_save lk1542 hx hb hml hown ht hK hZ hS hA 25 5 rfl rfl rfl ⟨rfl, rfl⟩ ⟨Nat.le_of_ble_eq_true rfl, Nat.le_of_ble_eq_true rfl⟩ rfl hl.1 rfl (Nat.le_of_ble_eq_true rfl) hz0 ddL_law_2594 (fun r4 σ3 H locs hS h => ?_)
  refine lv_icmp_eq (tgt := 2646) hx hb ddL_law_2597 (by decide) (fun c5 => ?_) (fun c5 => ?_)
  · replace h := h.1 c5
    exact kE _ _ _ _ _ _ ⟨by omega, by omega⟩ hS (lv_sub hl [0, 1, 2, 3, 4, 5] rfl) h
  · replace h := h.2 c5
    refine lv_iconst (v := (0 : Int32)) hx hb ddL_law_2600 (by decide) ?_
    exact h.elim
set_option maxHeartbeats 4000000 in
set_option maxRecDepth 100000 in
theorem lc_48 {p : Program} {l : Launch} {e : Env} {s : State} {m : MethodId} {below : List Frame} {meth : Method} {c : Code} {A : Nat → Prop} {X : GX} {b L : Nat} {xs : Nat → Int32} {Q : State → Prop} (hC : LC l X p s m meth c A b L xs) {x5 a1 a2 a3 a4 : Int32} {σ : Mem} {H : Heap} {locs : List Loc} {ls : Array Slot} {cells slots : Nat} (hj : LJ x5 L xs a1 a2 a3 a4) (hz0 : cells ≤ room_1.cells ∧ slots ≤ room_1.slots) (hz1 : cells + 3 ≤ room_1.cells ∧ slots + 18 ≤ room_1.slots) (hS : WS X A s.heap σ H locs) (hl : lv_has ls 9 [(0, .ref b), (1, .ref (ga X 0)), (2, .ref (ga X 25)), (3, .ref (ga X 34)), (4, .ref (ga X 35)), (5, .int x5)]) {B : Mem → Prop} (h : wplc_48 a1 a2 a3 a4 σ B) (kE : LE p l e s m below meth c A X b x5 Q B cells slots) : W p l e room_1 s m #[Value.ref b] below meth c H locs cells slots Q (F0 m 2602 ls []) := by
  obtain ⟨hx, hb, hml, hown, ht, hK, hZ, hA, hY, hX, hbl, hbA, hfl⟩ := hC
  obtain ⟨hj0, hj1, hj2, hj3, hj4, e1, e2, e3, e4⟩ := hj
  unfold wplc_48 at h
  refine lv_aload_n hx hb ddL_law_2602 rfl (lv_at hl 1 rfl) ?_
  refine lv_aload_n hx hb ddL_law_2603 rfl (lv_at hl 3 rfl) ?_
  refine kw_SI (As := [.ref (ga X 0), .ref (ga X 34)]) (rest := []) (c_L_restore l X hfl h) mfw_L_restore lk1105 hx hb hml hown ht hK hZ hS hA hY ⟨rfl, rfl⟩ ⟨Nat.le_of_ble_eq_true rfl, Nat.le_of_ble_eq_true rfl⟩ rfl hl.1 rfl (Nat.le_of_ble_eq_true rfl) (hz_le hz1 (by decide)) ddL_law_2604 (fun r1 σ2 H locs hS h => ?_)
  refine lv_istore (lv' := [(6, .int r1), (0, .ref b), (1, .ref (ga X 0)), (2, .ref (ga X 25)), (3, .ref (ga X 34)), (4, .ref (ga X 35)), (5, .int x5)]) hx hb ddL_law_2607 hl (by decide) rfl (fun ls hl => ?_)
  refine lv_aload_n hx hb ddL_law_2609 rfl (lv_at hl 3 rfl) ?_
  refine k_VI (As := []) (rest := []) (c_X5_restore l X h) mf_X5_restore lk1546 hx hb hml hown ht hK hZ hS hA 25 5 rfl rfl rfl ⟨rfl, rfl⟩ ⟨Nat.le_of_ble_eq_true rfl, Nat.le_of_ble_eq_true rfl⟩ rfl hl.1 rfl (Nat.le_of_ble_eq_true rfl) (hz_le hz1 (by decide)) ddL_law_2610 (fun r4 σ3 H locs hS h => ?_)
  refine lv_istore (lv' := [(7, .int r4), (6, .int r1), (0, .ref b), (1, .ref (ga X 0)), (2, .ref (ga X 25)), (3, .ref (ga X 34)), (4, .ref (ga X 35)), (5, .int x5)]) hx hb ddL_law_2613 hl (by decide) rfl (fun ls hl => ?_)
  refine lv_aload_n hx hb ddL_law_2615 rfl (lv_at hl 4 rfl) ?_
  refine k_VI (As := []) (rest := []) (c_X5_thrown l X h) mf_X5_thrown lk1188 hx hb hml hown ht hK hZ hS hA 25 5 rfl rfl rfl ⟨rfl, rfl⟩ ⟨Nat.le_of_ble_eq_true rfl, Nat.le_of_ble_eq_true rfl⟩ rfl hl.1 rfl (Nat.le_of_ble_eq_true rfl) (hz_le hz1 (by decide)) ddL_law_2616 (fun r6 σ5 H locs hS h => ?_)
  refine lv_iload hx hb ddL_law_2619 (lv_at hl 1 rfl) ?_
  refine lv_icmp_eq (tgt := 2626) hx hb ddL_law_2621 (by decide) (fun c7 => ?_) (fun c7 => ?_)
  · replace h := h.1 c7
    refine lv_iload hx hb ddL_law_2626 (lv_at hl 1 rfl) ?_
    refine lv_if_ne (tgt := 2643) hx hb ddL_law_2628 (by decide) (fun c8 => ?_) (fun c8 => ?_)
    · replace h := h.1 c8
      refine lv_goto (tgt := 2646) hx hb ddL_law_2643 (by decide) ?_
      exact kE _ _ _ _ _ _ ⟨by omega, by omega⟩ hS (lv_sub hl [2, 3, 4, 5, 6, 7] rfl) h
    · replace h := h.2 c8
      refine lv_aload_n hx hb ddL_law_2631 rfl (lv_at hl 5 rfl) ?_
      refine lv_iconst (v := (0 : Int32)) hx hb ddL_law_2632 (by decide) ?_
      refine lald_34 hx hb hK hS ddL_law_2633 ?_
      refine lv_iload hx hb ddL_law_2634 (lv_at hl 0 rfl) ?_
      refine lv_i2l hx hb ddL_law_2636 rfl ?_
      refine W.lcmp hx hb ddL_law_2637 ?_
      refine lv_if_eq (tgt := 2643) hx hb ddL_law_2638 (by decide) (fun c9 => ?_) (fun c9 => ?_)
      · replace h := h.1 c9
        refine lv_goto (tgt := 2646) hx hb ddL_law_2643 (by decide) ?_
        exact kE _ _ _ _ _ _ ⟨by omega, by omega⟩ hS (lv_sub hl [2, 3, 4, 5, 6, 7] rfl) h
      · replace h := h.2 c9
        refine lv_iconst (v := (0 : Int32)) hx hb ddL_law_2641 (by decide) ?_
        exact h.elim
  · replace h := h.2 c7
    refine lv_iconst (v := (0 : Int32)) hx hb ddL_law_2624 (by decide) ?_
    exact h.elim
