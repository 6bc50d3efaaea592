def wp_X2_gates (σ : Mem) (K : Int32 → Mem → Prop) : Prop :=
  K (σ 2 0) σ

def wp_X2_guards (σ : Mem) (K : Int32 → Mem → Prop) : Prop :=
  K (σ 2 1) σ

def wp_X2_rationsLeft (σ : Mem) (K : Int32 → Mem → Prop) : Prop :=
  K (σ 2 2) σ

def wp_X2_now (σ : Mem) (K : Int32 → Mem → Prop) : Prop :=
  K (σ 2 3) σ

def wp_X2_isGate (x1 : Int32) (σ : Mem) (K : Int32 → Mem → Prop) : Prop :=
  ((x1 < (0 : Int32) → K (0 : Int32) σ) ∧ (¬ x1 < (0 : Int32) → (((5 : Int32) ≤ x1 → K (0 : Int32) σ) ∧ (¬ (5 : Int32) ≤ x1 → (((σ 2 0) ≤ x1 → K (0 : Int32) σ) ∧ (¬ (σ 2 0) ≤ x1 → K (1 : Int32) σ))))))

def wp_X2_isGuard (x1 : Int32) (σ : Mem) (K : Int32 → Mem → Prop) : Prop :=
  ((x1 < (0 : Int32) → K (0 : Int32) σ) ∧ (¬ x1 < (0 : Int32) → (((10 : Int32) ≤ x1 → K (0 : Int32) σ) ∧ (¬ (10 : Int32) ≤ x1 → (((σ 2 1) ≤ x1 → K (0 : Int32) σ) ∧ (¬ (σ 2 1) ≤ x1 → K (1 : Int32) σ))))))

def wp_X2_isSlot (x1 : Int32) (σ : Mem) (K : Int32 → Mem → Prop) : Prop :=
  ((x1 < (0 : Int32) → K (0 : Int32) σ) ∧ (¬ x1 < (0 : Int32) → (((28 : Int32) ≤ x1 → K (0 : Int32) σ) ∧ (¬ (28 : Int32) ≤ x1 → K (1 : Int32) σ))))

def wp_X2_hasPassed (x1 : Int32) (σ : Mem) (K : Int32 → Mem → Prop) : Prop :=
  (((σ 2 3) ≤ x1 → K (0 : Int32) σ) ∧ (¬ (σ 2 3) ≤ x1 → K (1 : Int32) σ))

def wp_X2_rankNeededAt (x1 : Int32) (σ : Mem) (K : Int32 → Mem → Prop) : Prop :=
  wp_X2_isGate x1 σ (fun r2 σ1 => ((r2 = (0 : Int32) → K (0 : Int32) σ1) ∧ (¬ r2 = (0 : Int32) → (vp_in ((4 : Int32) + x1) 179 ∧ K (σ1 2 ((4 : Int32) + x1).toNatClampNeg) σ1))))

def wp_X2_rankOf (x1 : Int32) (σ : Mem) (K : Int32 → Mem → Prop) : Prop :=
  wp_X2_isGuard x1 σ (fun r2 σ1 => ((r2 = (0 : Int32) → K (0 : Int32) σ1) ∧ (¬ r2 = (0 : Int32) → (vp_in ((9 : Int32) + x1) 179 ∧ K (σ1 2 ((9 : Int32) + x1).toNatClampNeg) σ1))))

def wp_X2_faintsOf (x1 : Int32) (σ : Mem) (K : Int32 → Mem → Prop) : Prop :=
  wp_X2_isGuard x1 σ (fun r2 σ1 => ((r2 = (0 : Int32) → K (0 : Int32) σ1) ∧ (¬ r2 = (0 : Int32) → (vp_in ((19 : Int32) + x1) 179 ∧ K (σ1 2 ((19 : Int32) + x1).toNatClampNeg) σ1))))

def wp_X2_appendGate (x1 : Int32) (σ : Mem) (K : Int32 → Mem → Prop) : Prop :=
  (∀ v1 : Int32, v1 = σ 2 0 → ((v1 < (0 : Int32) → K v1 σ) ∧ (¬ v1 < (0 : Int32) → (((5 : Int32) ≤ v1 → K v1 σ) ∧ (¬ (5 : Int32) ≤ v1 → (vp_in ((4 : Int32) + v1) 179 ∧ (∀ σ4 : Mem, σ4 = (st σ 2 ((4 : Int32) + v1).toNatClampNeg x1) → (∀ σ5 : Mem, σ5 = (st σ4 2 0 (v1 + (1 : Int32))) → K v1 σ5))))))))

def wp_X2_appendGuard (x1 : Int32) (σ : Mem) (K : Int32 → Mem → Prop) : Prop :=
  (∀ v1 : Int32, v1 = σ 2 1 → ((v1 < (0 : Int32) → K v1 σ) ∧ (¬ v1 < (0 : Int32) → (((10 : Int32) ≤ v1 → K v1 σ) ∧ (¬ (10 : Int32) ≤ v1 → (vp_in ((9 : Int32) + v1) 179 ∧ (∀ σ4 : Mem, σ4 = (st σ 2 ((9 : Int32) + v1).toNatClampNeg x1) → (∀ σ5 : Mem, σ5 = (st σ4 2 1 (v1 + (1 : Int32))) → K v1 σ5))))))))

def wp_X2_guardOn (x1 x2 : Int32) (σ : Mem) (K : Int32 → Mem → Prop) : Prop :=
  wp_X2_isGate x1 σ (fun r2 σ1 => ((r2 = (0 : Int32) → K (-1 : Int32) σ1) ∧ (¬ r2 = (0 : Int32) → wp_X2_isSlot x2 σ1 (fun r5 σ4 => ((r5 = (0 : Int32) → K (-1 : Int32) σ4) ∧ (¬ r5 = (0 : Int32) → (vp_in (((39 : Int32) + (x1 * (28 : Int32))) + x2) 179 ∧ K ((σ4 2 (((39 : Int32) + (x1 * (28 : Int32))) + x2).toNatClampNeg) - (1 : Int32)) σ4)))))))

def wp_X2_setDuty (x1 x2 x3 : Int32) (σ : Mem) (K : Mem → Prop) : Prop :=
  wp_X2_isGate x1 σ (fun r2 σ1 => ((r2 = (0 : Int32) → K σ1) ∧ (¬ r2 = (0 : Int32) → wp_X2_isSlot x2 σ1 (fun r5 σ4 => ((r5 = (0 : Int32) → K σ4) ∧ (¬ r5 = (0 : Int32) → (vp_in (((39 : Int32) + (x1 * (28 : Int32))) + x2) 179 ∧ (∀ σ7 : Mem, σ7 = (st σ4 2 (((39 : Int32) + (x1 * (28 : Int32))) + x2).toNatClampNeg (x3 + (1 : Int32))) → K σ7))))))))

def wpS_X2_gateHeld_18 (K : Int32 → Mem → Prop) (B18 : Int32 × Int32 × Int32 × Mem → Prop) (x1 x2 x3 : Int32) (σ : Mem) : Prop :=
  (((5 : Int32) ≤ x3 → K (-1 : Int32) σ) ∧ (¬ (5 : Int32) ≤ x3 → (vp_in (((39 : Int32) + (x3 * (28 : Int32))) + x2) 179 ∧ ((¬ (σ 2 (((39 : Int32) + (x3 * (28 : Int32))) + x2).toNatClampNeg) = (x1 + (1 : Int32)) → (∀ v6 : Int32, v6 = x3 + (1 : Int32) → B18 (x1, x2, v6, σ))) ∧ ((σ 2 (((39 : Int32) + (x3 * (28 : Int32))) + x2).toNatClampNeg) = (x1 + (1 : Int32)) → K x3 σ)))))

def wpF_X2_gateHeld_18 (K : Int32 → Mem → Prop) (B18 : Int32 × Int32 × Int32 × Mem → Prop) (s : Int32 × Int32 × Int32 × Mem) : Prop := wpS_X2_gateHeld_18 K B18 s.1 s.2.1 s.2.2.1 s.2.2.2

def wp_X2_gateHeld (x1 x2 : Int32) (σ : Mem) (K : Int32 → Mem → Prop) : Prop :=
  ((x2 < (0 : Int32) → K (-1 : Int32) σ) ∧ (¬ x2 < (0 : Int32) → (((28 : Int32) ≤ x2 → K (-1 : Int32) σ) ∧ (¬ (28 : Int32) ≤ x2 → (((0 : Int32) ≤ x1 → ∃ n, wlp (wpF_X2_gateHeld_18 K) n (x1, x2, (0 : Int32), σ)) ∧ (¬ (0 : Int32) ≤ x1 → K (-1 : Int32) σ))))))

def wpS_X2_firstGateHeld_3 (K : Int32 → Mem → Prop) (B3 : Int32 × Int32 × Int32 × Mem → Prop) (x1 x3 x4 : Int32) (σ : Mem) : Prop :=
  ((x3 < x4 → K (-1 : Int32) σ) ∧ (¬ x3 < x4 → (((28 : Int32) ≤ x4 → K (-1 : Int32) σ) ∧ (¬ (28 : Int32) ≤ x4 → wp_X2_gateHeld x1 x4 σ (fun r4 σ3 => ((r4 = (-1 : Int32) → (∀ v6 : Int32, v6 = x4 + (1 : Int32) → B3 (x1, x3, v6, σ3))) ∧ (¬ r4 = (-1 : Int32) → K r4 σ3)))))))

def wpF_X2_firstGateHeld_3 (K : Int32 → Mem → Prop) (B3 : Int32 × Int32 × Int32 × Mem → Prop) (s : Int32 × Int32 × Int32 × Mem) : Prop := wpS_X2_firstGateHeld_3 K B3 s.1 s.2.1 s.2.2.1 s.2.2.2

def wp_X2_firstGateHeld (x1 x2 x3 : Int32) (σ : Mem) (K : Int32 → Mem → Prop) : Prop :=
  ∃ n, wlp (wpF_X2_firstGateHeld_3 K) n (x1, x3, x2, σ)

def wpJ_X2_dutyTotal_27 (K : Int32 → Mem → Prop) (B5 : Int32 × Int32 × Int32 × Mem → Prop) (x1 x2 x3 : Int32) (σ : Mem) : Prop :=
  (∀ v3 : Int32, v3 = x3 + (1 : Int32) → B5 (x1, x2, v3, σ))

def wpS_X2_dutyTotal_5 (K : Int32 → Mem → Prop) (B5 : Int32 × Int32 × Int32 × Mem → Prop) (x1 x2 x3 : Int32) (σ : Mem) : Prop :=
  (((179 : Int32) ≤ x3 → K x2 σ) ∧ (¬ (179 : Int32) ≤ x3 → (vp_in x3 179 ∧ ((¬ (σ 2 x3.toNatClampNeg) = (x1 + (1 : Int32)) → wpJ_X2_dutyTotal_27 K B5 x1 x2 x3 σ) ∧ ((σ 2 x3.toNatClampNeg) = (x1 + (1 : Int32)) → (∀ v4 : Int32, v4 = x2 + (1 : Int32) → wpJ_X2_dutyTotal_27 K B5 x1 v4 x3 σ))))))

def wpF_X2_dutyTotal_5 (K : Int32 → Mem → Prop) (B5 : Int32 × Int32 × Int32 × Mem → Prop) (s : Int32 × Int32 × Int32 × Mem) : Prop := wpS_X2_dutyTotal_5 K B5 s.1 s.2.1 s.2.2.1 s.2.2.2

def wp_X2_dutyTotal (x1 : Int32) (σ : Mem) (K : Int32 → Mem → Prop) : Prop :=
  ∃ n, wlp (wpF_X2_dutyTotal_5 K) n (x1, (0 : Int32), (39 : Int32), σ)

def wpJ_X2_openGatesIn_25 (K : Int32 → Mem → Prop) (B4 : Int32 × Int32 × Int32 × Mem → Prop) (x1 x2 x3 : Int32) (σ : Mem) : Prop :=
  (∀ v7 : Int32, v7 = x3 + (1 : Int32) → B4 (x1, x2, v7, σ))

def wpS_X2_openGatesIn_4 (K : Int32 → Mem → Prop) (B4 : Int32 × Int32 × Int32 × Mem → Prop) (x1 x2 x3 : Int32) (σ : Mem) : Prop :=
  wp_X2_gates σ (fun r2 σ1 => ((r2 ≤ x3 → K x2 σ1) ∧ (¬ r2 ≤ x3 → wp_X2_guardOn x3 x1 σ1 (fun r5 σ4 => ((¬ r5 = (-1 : Int32) → wpJ_X2_openGatesIn_25 K B4 x1 x2 x3 σ4) ∧ (r5 = (-1 : Int32) → (∀ v8 : Int32, v8 = x2 + (1 : Int32) → wpJ_X2_openGatesIn_25 K B4 x1 v8 x3 σ4)))))))

def wpF_X2_openGatesIn_4 (K : Int32 → Mem → Prop) (B4 : Int32 × Int32 × Int32 × Mem → Prop) (s : Int32 × Int32 × Int32 × Mem) : Prop := wpS_X2_openGatesIn_4 K B4 s.1 s.2.1 s.2.2.1 s.2.2.2

def wp_X2_openGatesIn (x1 : Int32) (σ : Mem) (K : Int32 → Mem → Prop) : Prop :=
  ∃ n, wlp (wpF_X2_openGatesIn_4 K) n (x1, (0 : Int32), (0 : Int32), σ)

def wpJ_X2_openSlotsOf_26 (K : Int32 → Mem → Prop) (B7 : Int32 × Int32 × Int32 × Mem → Prop) (x1 x2 x3 : Int32) (σ : Mem) : Prop :=
  (∀ v7 : Int32, v7 = x3 + (1 : Int32) → B7 (x1, x2, v7, σ))

def wpS_X2_openSlotsOf_7 (K : Int32 → Mem → Prop) (B7 : Int32 × Int32 × Int32 × Mem → Prop) (x1 x2 x3 : Int32) (σ : Mem) : Prop :=
  (((28 : Int32) ≤ x3 → K x2 σ) ∧ (¬ (28 : Int32) ≤ x3 → wp_X2_guardOn x1 x3 σ (fun r5 σ4 => ((¬ r5 = (-1 : Int32) → wpJ_X2_openSlotsOf_26 K B7 x1 x2 x3 σ4) ∧ (r5 = (-1 : Int32) → (∀ v8 : Int32, v8 = x2 + (1 : Int32) → wpJ_X2_openSlotsOf_26 K B7 x1 v8 x3 σ4))))))

def wpF_X2_openSlotsOf_7 (K : Int32 → Mem → Prop) (B7 : Int32 × Int32 × Int32 × Mem → Prop) (s : Int32 × Int32 × Int32 × Mem) : Prop := wpS_X2_openSlotsOf_7 K B7 s.1 s.2.1 s.2.2.1 s.2.2.2

def wp_X2_openSlotsOf (x1 : Int32) (σ : Mem) (K : Int32 → Mem → Prop) : Prop :=
  wp_X2_now σ (fun r2 σ1 => ∃ n, wlp (wpF_X2_openSlotsOf_7 K) n (x1, (0 : Int32), r2, σ1))

def wpS_X2_allDuties_8 (K : Int32 → Mem → Prop) (B8 : Int32 × Int32 × Mem → Prop) (x2 x3 : Int32) (σ : Mem) : Prop :=
  (((28 : Int32) ≤ x3 → K x2 σ) ∧ (¬ (28 : Int32) ≤ x3 → wp_X2_gates σ (fun r4 σ3 => wp_X2_openGatesIn x3 σ3 (fun r6 σ5 => (∀ v7 : Int32, v7 = x2 + (r4 - r6) → (∀ v8 : Int32, v8 = x3 + (1 : Int32) → B8 (v7, v8, σ5)))))))

def wpF_X2_allDuties_8 (K : Int32 → Mem → Prop) (B8 : Int32 × Int32 × Mem → Prop) (s : Int32 × Int32 × Mem) : Prop := wpS_X2_allDuties_8 K B8 s.1 s.2.1 s.2.2

def wp_X2_allDuties (x1 : Int32) (σ : Mem) (K : Int32 → Mem → Prop) : Prop :=
  (∀ v1 : Int32, v1 = (if (0 : Int32) < x1 then x1 else (0 : Int32)) → ∃ n, wlp (wpF_X2_allDuties_8 K) n ((0 : Int32), v1, σ))

def wp_X2_hasLeave (x1 x2 : Int32) (σ : Mem) (K : Int32 → Mem → Prop) : Prop :=
  wp_X2_isGuard x1 σ (fun r2 σ1 => ((r2 = (0 : Int32) → K (0 : Int32) σ1) ∧ (¬ r2 = (0 : Int32) → (vp_in ((29 : Int32) + x1) 179 ∧ ((¬ (((σ1 2 ((29 : Int32) + x1).toNatClampNeg) >>> (x2 &&& 31)) &&& (1 : Int32)) = (1 : Int32) → K (0 : Int32) σ1) ∧ ((((σ1 2 ((29 : Int32) + x1).toNatClampNeg) >>> (x2 &&& 31)) &&& (1 : Int32)) = (1 : Int32) → K (1 : Int32) σ1))))))

def wp_X2_reasonAgainst (x1 x2 x3 : Int32) (σ : Mem) (K : Int32 → Mem → Prop) : Prop :=
  wp_X2_guardOn x1 x2 σ (fun r2 σ1 => ((r2 = (-1 : Int32) → wp_X2_rankOf x3 σ1 (fun r5 σ4 => wp_X2_rankNeededAt x1 σ4 (fun r7 σ6 => ((r7 ≤ r5 → wp_X2_hasLeave x3 x2 σ6 (fun r10 σ9 => ((r10 = (0 : Int32) → wp_X2_gateHeld x3 x2 σ9 (fun r13 σ12 => ((r13 = (-1 : Int32) → wp_X2_gateHeld x3 (x2 - (1 : Int32)) σ12 (fun r16 σ15 => ((r16 = (-1 : Int32) → wp_X2_gateHeld x3 (x2 + (1 : Int32)) σ15 (fun r19 σ18 => ((r19 = (-1 : Int32) → K (0 : Int32) σ18) ∧ (¬ r19 = (-1 : Int32) → K (6 : Int32) σ18)))) ∧ (¬ r16 = (-1 : Int32) → K (5 : Int32) σ15)))) ∧ (¬ r13 = (-1 : Int32) → K (4 : Int32) σ12)))) ∧ (¬ r10 = (0 : Int32) → K (3 : Int32) σ9)))) ∧ (¬ r7 ≤ r5 → K (2 : Int32) σ6))))) ∧ (¬ r2 = (-1 : Int32) → K (1 : Int32) σ1)))

def wp_X2_detailOf (x1 x2 x3 x4 : Int32) (σ : Mem) (K : Int32 → Mem → Prop) : Prop :=
  ((x1 = (1 : Int32) → wp_X2_guardOn x2 x3 σ (fun r2 σ1 => K r2 σ1)) ∧ (x1 = (2 : Int32) → wp_X2_rankOf x4 σ (fun r5 σ4 => K r5 σ4)) ∧ (x1 = (3 : Int32) → K x3 σ) ∧ (x1 = (4 : Int32) → wp_X2_gateHeld x4 x3 σ (fun r9 σ8 => K r9 σ8)) ∧ (x1 = (5 : Int32) → wp_X2_gateHeld x4 (x3 - (1 : Int32)) σ (fun r12 σ11 => K r12 σ11)) ∧ (¬ x1 = (1 : Int32) → ¬ x1 = (2 : Int32) → ¬ x1 = (3 : Int32) → ¬ x1 = (4 : Int32) → ¬ x1 = (5 : Int32) → wp_X2_gateHeld x4 (x3 + (1 : Int32)) σ (fun r15 σ14 => K r15 σ14)))

def wpS_X2_nextSlotOf_5 (K : Int32 → Mem → Prop) (B5 : Int32 × Int32 × Mem → Prop) (x1 x2 : Int32) (σ : Mem) : Prop :=
  (((28 : Int32) ≤ x2 → K (-1 : Int32) σ) ∧ (¬ (28 : Int32) ≤ x2 → wp_X2_gateHeld x1 x2 σ (fun r5 σ4 => ((r5 = (-1 : Int32) → (∀ v7 : Int32, v7 = x2 + (1 : Int32) → B5 (x1, v7, σ4))) ∧ (¬ r5 = (-1 : Int32) → K x2 σ4)))))

def wpF_X2_nextSlotOf_5 (K : Int32 → Mem → Prop) (B5 : Int32 × Int32 × Mem → Prop) (s : Int32 × Int32 × Mem) : Prop := wpS_X2_nextSlotOf_5 K B5 s.1 s.2.1 s.2.2

def wp_X2_nextSlotOf (x1 : Int32) (σ : Mem) (K : Int32 → Mem → Prop) : Prop :=
  wp_X2_now σ (fun r2 σ1 => ∃ n, wlp (wpF_X2_nextSlotOf_5 K) n (x1, r2, σ1))

def wpJ_X2_longestGap_32 (K : Int32 → Mem → Prop) (B7 : Int32 × Int32 × Int32 × Int32 × Mem → Prop) (x1 x2 x4 y0 : Int32) (σ : Mem) : Prop :=
  (∀ v5 : Int32, v5 = (if x2 < y0 then y0 else x2) → (∀ v6 : Int32, v6 = x4 + (1 : Int32) → B7 (x1, v5, y0, v6, σ)))

def wpS_X2_longestGap_7 (K : Int32 → Mem → Prop) (B7 : Int32 × Int32 × Int32 × Int32 × Mem → Prop) (x1 x2 x3 x4 : Int32) (σ : Mem) : Prop :=
  (((28 : Int32) ≤ x4 → K x2 σ) ∧ (¬ (28 : Int32) ≤ x4 → wp_X2_gateHeld x1 x4 σ (fun r3 σ2 => ((¬ r3 = (-1 : Int32) → wpJ_X2_longestGap_32 K B7 x1 x2 x4 (0 : Int32) σ2) ∧ (r3 = (-1 : Int32) → wpJ_X2_longestGap_32 K B7 x1 x2 x4 (x3 + (1 : Int32)) σ2)))))

def wpF_X2_longestGap_7 (K : Int32 → Mem → Prop) (B7 : Int32 × Int32 × Int32 × Int32 × Mem → Prop) (s : Int32 × Int32 × Int32 × Int32 × Mem) : Prop := wpS_X2_longestGap_7 K B7 s.1 s.2.1 s.2.2.1 s.2.2.2.1 s.2.2.2.2

def wp_X2_longestGap (x1 : Int32) (σ : Mem) (K : Int32 → Mem → Prop) : Prop :=
  ∃ n, wlp (wpF_X2_longestGap_7 K) n (x1, (0 : Int32), (0 : Int32), (0 : Int32), σ)

def wpJ_X2_allRest_48 (K : Int32 → Mem → Prop) (B2 : Int32 × Mem → Prop) (x1 : Int32) (σ : Mem) : Prop :=
  (∀ v5 : Int32, v5 = x1 + (1 : Int32) → B2 (v5, σ))

def wpJ_X2_allRest_42 (K : Int32 → Mem → Prop) (B2 : Int32 × Mem → Prop) (B12 : Int32 × Int32 × Mem → Prop) (x1 x2 : Int32) (σ : Mem) : Prop :=
  (∀ v9 : Int32, v9 = x2 + (1 : Int32) → B12 (x1, v9, σ))

def wpS_X2_allRest_12 (K : Int32 → Mem → Prop) (B2 : Int32 × Mem → Prop) (B12 : Int32 × Int32 × Mem → Prop) (x1 x2 : Int32) (σ : Mem) : Prop :=
  (((28 : Int32) ≤ x2 → wpJ_X2_allRest_48 K B2 x1 σ) ∧ (¬ (28 : Int32) ≤ x2 → wp_X2_gateHeld x1 (x2 - (1 : Int32)) σ (fun r7 σ6 => ((r7 = (-1 : Int32) → wpJ_X2_allRest_42 K B2 B12 x1 x2 σ6) ∧ (¬ r7 = (-1 : Int32) → wp_X2_gateHeld x1 x2 σ6 (fun r11 σ10 => ((r11 = (-1 : Int32) → wpJ_X2_allRest_42 K B2 B12 x1 x2 σ10) ∧ (¬ r11 = (-1 : Int32) → K (0 : Int32) σ10))))))))

def wpF_X2_allRest_12 (K : Int32 → Mem → Prop) (B2 : Int32 × Mem → Prop) (B12 : Int32 × Int32 × Mem → Prop) (s : Int32 × Int32 × Mem) : Prop := wpS_X2_allRest_12 K B2 B12 s.1 s.2.1 s.2.2

def wpS_X2_allRest_2 (K : Int32 → Mem → Prop) (B2 : Int32 × Mem → Prop) (x1 : Int32) (σ : Mem) : Prop :=
  wp_X2_guards σ (fun r2 σ1 => ((r2 ≤ x1 → K (1 : Int32) σ1) ∧ (¬ r2 ≤ x1 → ∃ n, wlp (wpF_X2_allRest_12 K B2) n (x1, (1 : Int32), σ1))))

def wpF_X2_allRest_2 (K : Int32 → Mem → Prop) (B2 : Int32 × Mem → Prop) (s : Int32 × Mem) : Prop := wpS_X2_allRest_2 K B2 s.1 s.2

def wp_X2_allRest (σ : Mem) (K : Int32 → Mem → Prop) : Prop :=
  ∃ n, wlp (wpF_X2_allRest_2 K) n ((0 : Int32), σ)

def wpS_X2_computeOrderKeys_2 (K : Mem → Prop) (B2 : Int32 × Mem → Prop) (x1 : Int32) (σ : Mem) : Prop :=
  (((10 : Int32) ≤ x1 → K σ) ∧ (¬ (10 : Int32) ≤ x1 → wp_X2_dutyTotal x1 σ (fun r3 σ2 => wp_X2_rankOf x1 σ2 (fun r5 σ4 => (vp_in x1 10 ∧ (∀ σ6 : Mem, σ6 = (st σ4 3 x1.toNatClampNeg ((((r3 * (10 : Int32)) + r5) * (10 : Int32)) + x1)) → (∀ v7 : Int32, v7 = x1 + (1 : Int32) → B2 (v7, σ6))))))))

def wpF_X2_computeOrderKeys_2 (K : Mem → Prop) (B2 : Int32 × Mem → Prop) (s : Int32 × Mem) : Prop := wpS_X2_computeOrderKeys_2 K B2 s.1 s.2

def wp_X2_computeOrderKeys (σ : Mem) (K : Mem → Prop) : Prop :=
  ∃ n, wlp (wpF_X2_computeOrderKeys_2 K) n ((0 : Int32), σ)

def wpJ_X2_guardsBefore_31 (K : Int32 → Mem → Prop) (B4 : Int32 × Int32 × Int32 × Mem → Prop) (x1 x2 x3 : Int32) (σ : Mem) : Prop :=
  (∀ v6 : Int32, v6 = x3 + (1 : Int32) → B4 (x1, x2, v6, σ))

def wpS_X2_guardsBefore_4 (K : Int32 → Mem → Prop) (B4 : Int32 × Int32 × Int32 × Mem → Prop) (x1 x2 x3 : Int32) (σ : Mem) : Prop :=
  (((10 : Int32) ≤ x3 → K x2 σ) ∧ (¬ (10 : Int32) ≤ x3 → wp_X2_guards σ (fun r3 σ2 => ((r3 ≤ x3 → K x2 σ2) ∧ (¬ r3 ≤ x3 → (vp_in x3 10 ∧ ((x1 ≤ (σ2 3 x3.toNatClampNeg) → wpJ_X2_guardsBefore_31 K B4 x1 x2 x3 σ2) ∧ (¬ x1 ≤ (σ2 3 x3.toNatClampNeg) → (∀ v7 : Int32, v7 = x2 + (1 : Int32) → wpJ_X2_guardsBefore_31 K B4 x1 v7 x3 σ2)))))))))

def wpF_X2_guardsBefore_4 (K : Int32 → Mem → Prop) (B4 : Int32 × Int32 × Int32 × Mem → Prop) (s : Int32 × Int32 × Int32 × Mem) : Prop := wpS_X2_guardsBefore_4 K B4 s.1 s.2.1 s.2.2.1 s.2.2.2

def wp_X2_guardsBefore (x1 : Int32) (σ : Mem) (K : Int32 → Mem → Prop) : Prop :=
  ∃ n, wlp (wpF_X2_guardsBefore_4 K) n (x1, (0 : Int32), (0 : Int32), σ)

def wpS_X2_guardInOrder_6 (K : Int32 → Mem → Prop) (B6 : Int32 × Int32 × Mem → Prop) (x1 x2 : Int32) (σ : Mem) : Prop :=
  (((10 : Int32) ≤ x2 → K (-1 : Int32) σ) ∧ (¬ (10 : Int32) ≤ x2 → wp_X2_guards σ (fun r4 σ3 => ((r4 ≤ x2 → K (-1 : Int32) σ3) ∧ (¬ r4 ≤ x2 → (vp_in x2 10 ∧ wp_X2_guardsBefore (σ3 3 x2.toNatClampNeg) σ3 (fun r7 σ6 => ((¬ r7 = x1 → (∀ v9 : Int32, v9 = x2 + (1 : Int32) → B6 (x1, v9, σ6))) ∧ (r7 = x1 → K x2 σ6)))))))))

def wpF_X2_guardInOrder_6 (K : Int32 → Mem → Prop) (B6 : Int32 × Int32 × Mem → Prop) (s : Int32 × Int32 × Mem) : Prop := wpS_X2_guardInOrder_6 K B6 s.1 s.2.1 s.2.2

def wp_X2_guardInOrder (x1 : Int32) (σ : Mem) (K : Int32 → Mem → Prop) : Prop :=
  wp_X2_computeOrderKeys σ (fun σ1 => ∃ n, wlp (wpF_X2_guardInOrder_6 K) n (x1, (0 : Int32), σ1))

def wpJ_X2_mostNeedingGate_52 (K : Int32 → Mem → Prop) (B4 : Int32 × Int32 × Int32 × Mem → Prop) (x1 x2 x3 : Int32) (σ : Mem) : Prop :=
  (∀ v6 : Int32, v6 = x3 + (1 : Int32) → B4 (x1, x2, v6, σ))

def wpJ_X2_mostNeedingGate_50 (K : Int32 → Mem → Prop) (B4 : Int32 × Int32 × Int32 × Mem → Prop) (x1 x3 : Int32) (σ : Mem) : Prop :=
  wpJ_X2_mostNeedingGate_52 K B4 x1 x3 x3 σ

def wpJ_X2_mostNeedingGate_25 (K : Int32 → Mem → Prop) (B4 : Int32 × Int32 × Int32 × Mem → Prop) (x1 x2 x3 y0 : Int32) (σ : Mem) : Prop :=
  ((y0 = (0 : Int32) → wpJ_X2_mostNeedingGate_52 K B4 x1 x2 x3 σ) ∧ (¬ y0 = (0 : Int32) → ((x2 = (-1 : Int32) → wpJ_X2_mostNeedingGate_50 K B4 x1 x3 σ) ∧ (¬ x2 = (-1 : Int32) → wp_X2_rankNeededAt x3 σ (fun r9 σ8 => wp_X2_rankNeededAt x2 σ8 (fun r11 σ10 => ((r9 ≤ r11 → wpJ_X2_mostNeedingGate_52 K B4 x1 x2 x3 σ10) ∧ (¬ r9 ≤ r11 → wpJ_X2_mostNeedingGate_50 K B4 x1 x3 σ10))))))))

def wpS_X2_mostNeedingGate_4 (K : Int32 → Mem → Prop) (B4 : Int32 × Int32 × Int32 × Mem → Prop) (x1 x2 x3 : Int32) (σ : Mem) : Prop :=
  wp_X2_gates σ (fun r2 σ1 => ((r2 ≤ x3 → K x2 σ1) ∧ (¬ r2 ≤ x3 → ((¬ ((x1 >>> (x3 &&& 31)) &&& (1 : Int32)) = (0 : Int32) → wpJ_X2_mostNeedingGate_25 K B4 x1 x2 x3 (0 : Int32) σ1) ∧ (((x1 >>> (x3 &&& 31)) &&& (1 : Int32)) = (0 : Int32) → wpJ_X2_mostNeedingGate_25 K B4 x1 x2 x3 (1 : Int32) σ1)))))

def wpF_X2_mostNeedingGate_4 (K : Int32 → Mem → Prop) (B4 : Int32 × Int32 × Int32 × Mem → Prop) (s : Int32 × Int32 × Int32 × Mem) : Prop := wpS_X2_mostNeedingGate_4 K B4 s.1 s.2.1 s.2.2.1 s.2.2.2

def wp_X2_mostNeedingGate (x1 : Int32) (σ : Mem) (K : Int32 → Mem → Prop) : Prop :=
  ∃ n, wlp (wpF_X2_mostNeedingGate_4 K) n (x1, (-1 : Int32), (0 : Int32), σ)

def wpJ_X2_firstGuardFor_68 (K : Int32 → Mem → Prop) (B5 : Int32 × Int32 × Int32 × Int32 × Mem → Prop) (x1 x2 x3 x4 : Int32) (σ : Mem) : Prop :=
  (∀ v7 : Int32, v7 = x4 + (1 : Int32) → B5 (x1, x2, x3, v7, σ))

def wpJ_X2_firstGuardFor_47 (K : Int32 → Mem → Prop) (B5 : Int32 × Int32 × Int32 × Int32 × Mem → Prop) (x1 x2 x3 x4 y0 : Int32) (σ : Mem) : Prop :=
  ((y0 = (0 : Int32) → wpJ_X2_firstGuardFor_68 K B5 x1 x2 x3 x4 σ) ∧ (¬ y0 = (0 : Int32) → wp_X2_reasonAgainst x1 x2 x4 σ (fun r9 σ8 => ((¬ r9 = (0 : Int32) → wpJ_X2_firstGuardFor_68 K B5 x1 x2 x3 x4 σ8) ∧ (r9 = (0 : Int32) → wpJ_X2_firstGuardFor_68 K B5 x1 x2 x4 x4 σ8)))))

def wpJ_X2_firstGuardFor_42 (K : Int32 → Mem → Prop) (B5 : Int32 × Int32 × Int32 × Int32 × Mem → Prop) (x1 x2 x3 x4 : Int32) (σ : Mem) : Prop :=
  wpJ_X2_firstGuardFor_47 K B5 x1 x2 x3 x4 (1 : Int32) σ

def wpS_X2_firstGuardFor_5 (K : Int32 → Mem → Prop) (B5 : Int32 × Int32 × Int32 × Int32 × Mem → Prop) (x1 x2 x3 x4 : Int32) (σ : Mem) : Prop :=
  (((10 : Int32) ≤ x4 → K x3 σ) ∧ (¬ (10 : Int32) ≤ x4 → wp_X2_guards σ (fun r3 σ2 => ((r3 ≤ x4 → K x3 σ2) ∧ (¬ r3 ≤ x4 → ((x3 = (-1 : Int32) → wpJ_X2_firstGuardFor_42 K B5 x1 x2 x3 x4 σ2) ∧ (¬ x3 = (-1 : Int32) → (vp_in x4 10 ∧ (vp_in x3 10 ∧ (((σ2 3 x3.toNatClampNeg) ≤ (σ2 3 x4.toNatClampNeg) → wpJ_X2_firstGuardFor_47 K B5 x1 x2 x3 x4 (0 : Int32) σ2) ∧ (¬ (σ2 3 x3.toNatClampNeg) ≤ (σ2 3 x4.toNatClampNeg) → wpJ_X2_firstGuardFor_42 K B5 x1 x2 x3 x4 σ2)))))))))))

def wpF_X2_firstGuardFor_5 (K : Int32 → Mem → Prop) (B5 : Int32 × Int32 × Int32 × Int32 × Mem → Prop) (s : Int32 × Int32 × Int32 × Int32 × Mem) : Prop := wpS_X2_firstGuardFor_5 K B5 s.1 s.2.1 s.2.2.1 s.2.2.2.1 s.2.2.2.2

def wp_X2_firstGuardFor (x1 x2 : Int32) (σ : Mem) (K : Int32 → Mem → Prop) : Prop :=
  ∃ n, wlp (wpF_X2_firstGuardFor_5 K) n (x1, x2, (-1 : Int32), (0 : Int32), σ)

def wpJ_X2_fill_61 (K : Int32 → Mem → Prop) (B11 : Int32 × Int32 × Int32 × Int32 × Mem → Prop) (x1 x2 x3 x4 : Int32) (σ : Mem) : Prop :=
  (∀ v11 : Int32, v11 = x4 + (1 : Int32) → B11 (x1, x2, x3, v11, σ))

def wpS_X2_fill_11 (K : Int32 → Mem → Prop) (B11 : Int32 × Int32 × Int32 × Int32 × Mem → Prop) (x1 x2 x3 x4 : Int32) (σ : Mem) : Prop :=
  wp_X2_gates σ (fun r3 σ2 => ((r3 ≤ x4 → K x2 σ2) ∧ (¬ r3 ≤ x4 → wp_X2_mostNeedingGate x3 σ2 (fun r6 σ5 => (∀ v7 : Int32, v7 = x3 ||| ((1 : Int32) <<< (r6 &&& 31)) → wp_X2_firstGuardFor r6 x1 σ5 (fun r9 σ8 => ((r9 = (-1 : Int32) → wpJ_X2_fill_61 K B11 x1 x2 v7 x4 σ8) ∧ (¬ r9 = (-1 : Int32) → wp_X2_setDuty r6 x1 r9 σ8 (fun σ12 => (∀ v13 : Int32, v13 = x2 + (1 : Int32) → wpJ_X2_fill_61 K B11 x1 v13 v7 x4 σ12))))))))))

def wpF_X2_fill_11 (K : Int32 → Mem → Prop) (B11 : Int32 × Int32 × Int32 × Int32 × Mem → Prop) (s : Int32 × Int32 × Int32 × Int32 × Mem) : Prop := wpS_X2_fill_11 K B11 s.1 s.2.1 s.2.2.1 s.2.2.2.1 s.2.2.2.2

def wp_X2_fill (x1 : Int32) (σ : Mem) (K : Int32 → Mem → Prop) : Prop :=
  wp_X2_computeOrderKeys σ (fun σ1 => ∃ n, wlp (wpF_X2_fill_11 K) n (x1, (0 : Int32), (0 : Int32), (0 : Int32), σ1))

def wp_X2_dropLeave (x1 x2 : Int32) (σ : Mem) (K : Mem → Prop) : Prop :=
  wp_X2_isGuard x1 σ (fun r2 σ1 => ((r2 = (0 : Int32) → K σ1) ∧ (¬ r2 = (0 : Int32) → (vp_in ((29 : Int32) + x1) 179 ∧ (vp_in ((29 : Int32) + x1) 179 ∧ (∀ σ4 : Mem, σ4 = (st σ1 2 ((29 : Int32) + x1).toNatClampNeg ((σ1 2 ((29 : Int32) + x1).toNatClampNeg) &&& (((1 : Int32) <<< (x2 &&& 31)) ^^^ (-1 : Int32)))) → K σ4))))))

def wp_X2_store (x1 : Int32) (σ : Mem) (K : Mem → Prop) : Prop :=
  (∀ σ1 : Mem, σ1 = (st σ 2 2 ((σ 2 2) + x1)) → K σ1)

def wpJ_X2_feedGuardsOf_77 (K : Int32 → Mem → Prop) (B4 : Int32 × Int32 × Int32 × Mem → Prop) (x1 x2 x3 : Int32) (σ : Mem) : Prop :=
  (∀ v12 : Int32, v12 = x3 + (1 : Int32) → B4 (x1, x2, v12, σ))

def wpJ_X2_feedGuardsOf_51 (K : Int32 → Mem → Prop) (B4 : Int32 × Int32 × Int32 × Mem → Prop) (x1 x2 x3 x4 : Int32) (σ : Mem) : Prop :=
  wp_X2_isGuard x4 σ (fun r10 σ9 => ((r10 = (0 : Int32) → wpJ_X2_feedGuardsOf_77 K B4 x1 x2 x3 σ9) ∧ (¬ r10 = (0 : Int32) → (vp_in ((19 : Int32) + x4) 179 ∧ (vp_in ((19 : Int32) + x4) 179 ∧ (∀ σ13 : Mem, σ13 = (st σ9 2 ((19 : Int32) + x4).toNatClampNeg ((σ9 2 ((19 : Int32) + x4).toNatClampNeg) + (1 : Int32))) → (∀ v14 : Int32, v14 = x2 + (1 : Int32) → wpJ_X2_feedGuardsOf_77 K B4 x1 v14 x3 σ13)))))))

def wpS_X2_feedGuardsOf_4 (K : Int32 → Mem → Prop) (B4 : Int32 × Int32 × Int32 × Mem → Prop) (x1 x2 x3 : Int32) (σ : Mem) : Prop :=
  wp_X2_gates σ (fun r2 σ1 => ((r2 ≤ x3 → K x2 σ1) ∧ (¬ r2 ≤ x3 → wp_X2_guardOn x3 x1 σ1 (fun r5 σ4 => wp_X2_isGuard r5 σ4 (fun r7 σ6 => ((r7 = (0 : Int32) → wpJ_X2_feedGuardsOf_51 K B4 x1 x2 x3 r5 σ6) ∧ (¬ r7 = (0 : Int32) → (((σ6 2 2) ≤ (0 : Int32) → wpJ_X2_feedGuardsOf_51 K B4 x1 x2 x3 r5 σ6) ∧ (¬ (σ6 2 2) ≤ (0 : Int32) → (∀ σ16 : Mem, σ16 = (st σ6 2 2 ((σ6 2 2) - (1 : Int32))) → wpJ_X2_feedGuardsOf_77 K B4 x1 x2 x3 σ16))))))))))

def wpF_X2_feedGuardsOf_4 (K : Int32 → Mem → Prop) (B4 : Int32 × Int32 × Int32 × Mem → Prop) (s : Int32 × Int32 × Int32 × Mem) : Prop := wpS_X2_feedGuardsOf_4 K B4 s.1 s.2.1 s.2.2.1 s.2.2.2

def wp_X2_feedGuardsOf (x1 : Int32) (σ : Mem) (K : Int32 → Mem → Prop) : Prop :=
  ∃ n, wlp (wpF_X2_feedGuardsOf_4 K) n (x1, (0 : Int32), (0 : Int32), σ)

def wpS_X2_letPass_4 (K : Int32 → Mem → Prop) (B4 : Int32 × Int32 × Int32 × Mem → Prop) (x1 x2 x3 : Int32) (σ : Mem) : Prop :=
  ((x1 ≤ x3 → K x2 σ) ∧ (¬ x1 ≤ x3 → (((28 : Int32) ≤ (σ 2 3) → K x2 σ) ∧ (¬ (28 : Int32) ≤ (σ 2 3) → wp_X2_feedGuardsOf (σ 2 3) σ (fun r4 σ3 => (∀ v5 : Int32, v5 = x2 + r4 → (∀ σ6 : Mem, σ6 = (st σ3 2 3 ((σ3 2 3) + (1 : Int32))) → (∀ v7 : Int32, v7 = x3 + (1 : Int32) → B4 (x1, v5, v7, σ6)))))))))

def wpF_X2_letPass_4 (K : Int32 → Mem → Prop) (B4 : Int32 × Int32 × Int32 × Mem → Prop) (s : Int32 × Int32 × Int32 × Mem) : Prop := wpS_X2_letPass_4 K B4 s.1 s.2.1 s.2.2.1 s.2.2.2

def wp_X2_letPass (x1 : Int32) (σ : Mem) (K : Int32 → Mem → Prop) : Prop :=
  ∃ n, wlp (wpF_X2_letPass_4 K) n (x1, (0 : Int32), (0 : Int32), σ)
