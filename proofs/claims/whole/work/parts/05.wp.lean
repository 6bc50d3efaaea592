def wp_X2_gates (σ : Mem) (K : Int32 → Mem → Prop) : Prop :=
  K (σ 2 0) σ

def wp_X2_guards (σ : Mem) (K : Int32 → Mem → Prop) : Prop :=
  K (σ 2 1) σ

def wp_X2_rationsLeft (σ : Mem) (K : Int32 → Mem → Prop) : Prop :=
  K (σ 2 2) σ

def wp_X2_now (σ : Mem) (K : Int32 → Mem → Prop) : Prop :=
  K (σ 2 3) σ

def wp_X2_isGate (x1 : Int32) (σ : Mem) (K : Int32 → Mem → Prop) : Prop :=
  ((x1 < (0 : Int32) → K (0 : Int32) σ) ∧ (¬ x1 < (0 : Int32) → (((5 : Int32) ≤ x1 → K (0 : Int32) σ) ∧ (¬ (5 : Int32) ≤ x1 → (((σ 2 0) ≤ x1 → K (0 : Int32) σ) ∧ (¬ (σ 2 0) ≤ x1 → K (1 : Int32) σ))))))

def wp_X2_isGuard (x1 : Int32) (σ : Mem) (K : Int32 → Mem → Prop) : Prop :=
  ((x1 < (0 : Int32) → K (0 : Int32) σ) ∧ (¬ x1 < (0 : Int32) → (((10 : Int32) ≤ x1 → K (0 : Int32) σ) ∧ (¬ (10 : Int32) ≤ x1 → (((σ 2 1) ≤ x1 → K (0 : Int32) σ) ∧ (¬ (σ 2 1) ≤ x1 → K (1 : Int32) σ))))))

def wp_X2_isSlot (x1 : Int32) (σ : Mem) (K : Int32 → Mem → Prop) : Prop :=
  ((x1 < (0 : Int32) → K (0 : Int32) σ) ∧ (¬ x1 < (0 : Int32) → (((28 : Int32) ≤ x1 → K (0 : Int32) σ) ∧ (¬ (28 : Int32) ≤ x1 → K (1 : Int32) σ))))

def wp_X2_hasPassed (x1 : Int32) (σ : Mem) (K : Int32 → Mem → Prop) : Prop :=
  (((σ 2 3) ≤ x1 → K (0 : Int32) σ) ∧ (¬ (σ 2 3) ≤ x1 → K (1 : Int32) σ))

def wp_X2_rankNeededAt (x1 : Int32) (σ : Mem) (K : Int32 → Mem → Prop) : Prop :=
  wp_X2_isGate x1 σ (fun r2 σ1 => ((r2 = (0 : Int32) → K (0 : Int32) σ1) ∧ (¬ r2 = (0 : Int32) → (vp_in ((4 : Int32) + x1) 179 ∧ K (σ1 2 ((4 : Int32) + x1).toNatClampNeg) σ1))))

def wp_X2_rankOf (x1 : Int32) (σ : Mem) (K : Int32 → Mem → Prop) : Prop :=
  wp_X2_isGuard x1 σ (fun r2 σ1 => ((r2 = (0 : Int32) → K (0 : Int32) σ1) ∧ (¬ r2 = (0 : Int32) → (vp_in ((9 : Int32) + x1) 179 ∧ K (σ1 2 ((9 : Int32) + x1).toNatClampNeg) σ1))))

def wp_X2_faintsOf (x1 : Int32) (σ : Mem) (K : Int32 → Mem → Prop) : Prop :=
  wp_X2_isGuard x1 σ (fun r2 σ1 => ((r2 = (0 : Int32) → K (0 : Int32) σ1) ∧ (¬ r2 = (0 : Int32) → (vp_in ((19 : Int32) + x1) 179 ∧ K (σ1 2 ((19 : Int32) + x1).toNatClampNeg) σ1))))

def wp_X2_appendGate (x1 : Int32) (σ : Mem) (K : Int32 → Mem → Prop) : Prop :=
  (∀ v1 : Int32, v1 = σ 2 0 → ((v1 < (0 : Int32) → K v1 σ) ∧ (¬ v1 < (0 : Int32) → (((5 : Int32) ≤ v1 → K v1 σ) ∧ (¬ (5 : Int32) ≤ v1 → (vp_in ((4 : Int32) + v1) 179 ∧ (∀ σ4 : Mem, σ4 = (st σ 2 ((4 : Int32) + v1).toNatClampNeg x1) → (∀ σ5 : Mem, σ5 = (st σ4 2 0 (v1 + (1 : Int32))) → K v1 σ5))))))))

def wp_X2_appendGuard (x1 : Int32) (σ : Mem) (K : Int32 → Mem → Prop) : Prop :=
  (∀ v1 : Int32, v1 = σ 2 1 → ((v1 < (0 : Int32) → K v1 σ) ∧ (¬ v1 < (0 : Int32) → (((10 : Int32) ≤ v1 → K v1 σ) ∧ (¬ (10 : Int32) ≤ v1 → (vp_in ((9 : Int32) + v1) 179 ∧ (∀ σ4 : Mem, σ4 = (st σ 2 ((9 : Int32) + v1).toNatClampNeg x1) → (∀ σ5 : Mem, σ5 = (st σ4 2 1 (v1 + (1 : Int32))) → K v1 σ5))))))))

def wp_X2_guardOn (x1 x2 : Int32) (σ : Mem) (K : Int32 → Mem → Prop) : Prop :=
  wp_X2_isGate x1 σ (fun r2 σ1 => ((r2 = (0 : Int32) → K (-1 : Int32) σ1) ∧ (¬ r2 = (0 : Int32) → wp_X2_isSlot x2 σ1 (fun r5 σ4 => ((r5 = (0 : Int32) → K (-1 : Int32) σ4) ∧ (¬ r5 = (0 : Int32) → (vp_in (((39 : Int32) + (x1 * (28 : Int32))) + x2) 179 ∧ K ((σ4 2 (((39 : Int32) + (x1 * (28 : Int32))) + x2).toNatClampNeg) - (1 : Int32)) σ4)))))))

def wp_X2_setDuty (x1 x2 x3 : Int32) (σ : Mem) (K : Mem → Prop) : Prop :=
  wp_X2_isGate x1 σ (fun r2 σ1 => ((r2 = (0 : Int32) → K σ1) ∧ (¬ r2 = (0 : Int32) → wp_X2_isSlot x2 σ1 (fun r5 σ4 => ((r5 = (0 : Int32) → K σ4) ∧ (¬ r5 = (0 : Int32) → (vp_in (((39 : Int32) + (x1 * (28 : Int32))) + x2) 179 ∧ (∀ σ7 : Mem, σ7 = (st σ4 2 (((39 : Int32) + (x1 * (28 : Int32))) + x2).toNatClampNeg (x3 + (1 : Int32))) → K σ7))))))))

def wpS_X2_gateHeld_18 (K : Int32 → Mem → Prop) (B18 : Int32 × Int32 × Int32 × Mem → Prop) (x1 x2 x3 : Int32) (σ : Mem) : Prop :=
  (((5 : Int32) ≤ x3 → K (-1 : Int32) σ) ∧ (¬ (5 : Int32) ≤ x3 → (vp_in (((39 : Int32) + (x3 * (28 : Int32))) + x2) 179 ∧ ((¬ (σ 2 (((39 : Int32) + (x3 * (28 : Int32))) + x2).toNatClampNeg) = (x1 + (1 : Int32)) → (∀ v6 : Int32, v6 = x3 + (1 : Int32) → B18 (x1, x2, v6, σ))) ∧ ((σ 2 (((39 : Int32) + (x3 * (28 : Int32))) + x2).toNatClampNeg) = (x1 + (1 : Int32)) → K x3 σ)))))

def wpF_X2_gateHeld_18 (K : Int32 → Mem → Prop) (B18 : Int32 × Int32 × Int32 × Mem → Prop) (s : Int32 × Int32 × Int32 × Mem) : Prop := wpS_X2_gateHeld_18 K B18 s.1 s.2.1 s.2.2.1 s.2.2.2

def wp_X2_gateHeld (x1 x2 : Int32) (σ : Mem) (K : Int32 → Mem → Prop) : Prop :=
  ((x2 < (0 : Int32) → K (-1 : Int32) σ) ∧ (¬ x2 < (0 : Int32) → (((28 : Int32) ≤ x2 → K (-1 : Int32) σ) ∧ (¬ (28 : Int32) ≤ x2 → (((0 : Int32) ≤ x1 → ∃ n, wlp (wpF_X2_gateHeld_18 K) n (x1, x2, (0 : Int32), σ)) ∧ (¬ (0 : Int32) ≤ x1 → K (-1 : Int32) σ))))))

def wpS_X2_firstGateHeld_3 (K : Int32 → Mem → Prop) (B3 : Int32 × Int32 × Int32 × Mem → Prop) (x1 x3 x4 : Int32) (σ : Mem) : Prop :=
  ((x3 < x4 → K (-1 : Int32) σ) ∧ (¬ x3 < x4 → (((28 : Int32) ≤ x4 → K (-1 : Int32) σ) ∧ (¬ (28 : Int32) ≤ x4 → wp_X2_gateHeld x1 x4 σ (fun r4 σ3 => ((r4 = (-1 : Int32) → (∀ v6 : Int32, v6 = x4 + (1 : Int32) → B3 (x1, x3, v6, σ3))) ∧ (¬ r4 = (-1 : Int32) → K r4 σ3)))))))

def wpF_X2_firstGateHeld_3 (K : Int32 → Mem → Prop) (B3 : Int32 × Int32 × Int32 × Mem → Prop) (s : Int32 × Int32 × Int32 × Mem) : Prop := wpS_X2_firstGateHeld_3 K B3 s.1 s.2.1 s.2.2.1 s.2.2.2

def wp_X2_firstGateHeld (x1 x2 x3 : Int32) (σ : Mem) (K : Int32 → Mem → Prop) : Prop :=
  ∃ n, wlp (wpF_X2_firstGateHeld_3 K) n (x1, x3, x2, σ)

def wpJ_X2_dutyTotal_27 (K : Int32 → Mem → Prop) (B5 : Int32 × Int32 × Int32 × Mem → Prop) (x1 x2 x3 : Int32) (σ : Mem) : Prop :=
  (∀ v3 : Int32, v3 = x3 + (1 : Int32) → B5 (x1, x2, v3, σ))

def wpS_X2_dutyTotal_5 (K : Int32 → Mem → Prop) (B5 : Int32 × Int32 × Int32 × Mem → Prop) (x1 x2 x3 : Int32) (σ : Mem) : Prop :=
  (((179 : Int32) ≤ x3 → K x2 σ) ∧ (¬ (179 : Int32) ≤ x3 → (vp_in x3 179 ∧ ((¬ (σ 2 x3.toNatClampNeg) = (x1 + (1 : Int32)) → wpJ_X2_dutyTotal_27 K B5 x1 x2 x3 σ) ∧ ((σ 2 x3.toNatClampNeg) = (x1 + (1 : Int32)) → (∀ v4 : Int32, v4 = x2 + (1 : Int32) → wpJ_X2_dutyTotal_27 K B5 x1 v4 x3 σ))))))

def wpF_X2_dutyTotal_5 (K : Int32 → Mem → Prop) (B5 : Int32 × Int32 × Int32 × Mem → Prop) (s : Int32 × Int32 × Int32 × Mem) : Prop := wpS_X2_dutyTotal_5 K B5 s.1 s.2.1 s.2.2.1 s.2.2.2

def wp_X2_dutyTotal (x1 : Int32) (σ : Mem) (K : Int32 → Mem → Prop) : Prop :=
  ∃ n, wlp (wpF_X2_dutyTotal_5 K) n (x1, (0 : Int32), (39 : Int32), σ)

def wpJ_X2_openGatesIn_25 (K : Int32 → Mem → Prop) (B4 : Int32 × Int32 × Int32 × Mem → Prop) (x1 x2 x3 : Int32) (σ : Mem) : Prop :=
  (∀ v7 : Int32, v7 = x3 + (1 : Int32) → B4 (x1, x2, v7, σ))

def wpS_X2_openGatesIn_4 (K : Int32 → Mem → Prop) (B4 : Int32 × Int32 × Int32 × Mem → Prop) (x1 x2 x3 : Int32) (σ : Mem) : Prop :=
  wp_X2_gates σ (fun r2 σ1 => ((r2 ≤ x3 → K x2 σ1) ∧ (¬ r2 ≤ x3 → wp_X2_guardOn x3 x1 σ1 (fun r5 σ4 => ((¬ r5 = (-1 : Int32) → wpJ_X2_openGatesIn_25 K B4 x1 x2 x3 σ4) ∧ (r5 = (-1 : Int32) → (∀ v8 : Int32, v8 = x2 + (1 : Int32) → wpJ_X2_openGatesIn_25 K B4 x1 v8 x3 σ4)))))))

def wpF_X2_openGatesIn_4 (K : Int32 → Mem → Prop) (B4 : Int32 × Int32 × Int32 × Mem → Prop) (s : Int32 × Int32 × Int32 × Mem) : Prop := wpS_X2_openGatesIn_4 K B4 s.1 s.2.1 s.2.2.1 s.2.2.2

def wp_X2_openGatesIn (x1 : Int32) (σ : Mem) (K : Int32 → Mem → Prop) : Prop :=
  ∃ n, wlp (wpF_X2_openGatesIn_4 K) n (x1, (0 : Int32), (0 : Int32), σ)

def wpJ_X2_openSlotsOf_26 (K : Int32 → Mem → Prop) (B7 : Int32 × Int32 × Int32 × Mem → Prop) (x1 x2 x3 : Int32) (σ : Mem) : Prop :=
  (∀ v7 : Int32, v7 = x3 + (1 : Int32) → B7 (x1, x2, v7, σ))

def wpS_X2_openSlotsOf_7 (K : Int32 → Mem → Prop) (B7 : Int32 × Int32 × Int32 × Mem → Prop) (x1 x2 x3 : Int32) (σ : Mem) : Prop :=
  (((28 : Int32) ≤ x3 → K x2 σ) ∧ (¬ (28 : Int32) ≤ x3 → wp_X2_guardOn x1 x3 σ (fun r5 σ4 => ((¬ r5 = (-1 : Int32) → wpJ_X2_openSlotsOf_26 K B7 x1 x2 x3 σ4) ∧ (r5 = (-1 : Int32) → (∀ v8 : Int32, v8 = x2 + (1 : Int32) → wpJ_X2_openSlotsOf_26 K B7 x1 v8 x3 σ4))))))

def wpF_X2_openSlotsOf_7 (K : Int32 → Mem → Prop) (B7 : Int32 × Int32 × Int32 × Mem → Prop) (s : Int32 × Int32 × Int32 × Mem) : Prop := wpS_X2_openSlotsOf_7 K B7 s.1 s.2.1 s.2.2.1 s.2.2.2

def wp_X2_openSlotsOf (x1 : Int32) (σ : Mem) (K : Int32 → Mem → Prop) : Prop :=
  wp_X2_now σ (fun r2 σ1 => ∃ n, wlp (wpF_X2_openSlotsOf_7 K) n (x1, (0 : Int32), r2, σ1))

def wpS_X2_allDuties_8 (K : Int32 → Mem → Prop) (B8 : Int32 × Int32 × Mem → Prop) (x2 x3 : Int32) (σ : Mem) : Prop :=
  (((28 : Int32) ≤ x3 → K x2 σ) ∧ (¬ (28 : Int32) ≤ x3 → wp_X2_gates σ (fun r4 σ3 => wp_X2_openGatesIn x3 σ3 (fun r6 σ5 => (∀ v7 : Int32, v7 = x2 + (r4 - r6) → (∀ v8 : Int32, v8 = x3 + (1 : Int32) → B8 (v7, v8, σ5)))))))

def wpF_X2_allDuties_8 (K : Int32 → Mem → Prop) (B8 : Int32 × Int32 × Mem → Prop) (s : Int32 × Int32 × Mem) : Prop := wpS_X2_allDuties_8 K B8 s.1 s.2.1 s.2.2

def wp_X2_allDuties (x1 : Int32) (σ : Mem) (K : Int32 → Mem → Prop) : Prop :=
  (∀ v1 : Int32, v1 = (if (0 : Int32) < x1 then x1 else (0 : Int32)) → ∃ n, wlp (wpF_X2_allDuties_8 K) n ((0 : Int32), v1, σ))

def wp_X2_hasLeave (x1 x2 : Int32) (σ : Mem) (K : Int32 → Mem → Prop) : Prop :=
  wp_X2_isGuard x1 σ (fun r2 σ1 => ((r2 = (0 : Int32) → K (0 : Int32) σ1) ∧ (¬ r2 = (0 : Int32) → (vp_in ((29 : Int32) + x1) 179 ∧ ((¬ (((σ1 2 ((29 : Int32) + x1).toNatClampNeg) >>> (x2 &&& 31)) &&& (1 : Int32)) = (1 : Int32) → K (0 : Int32) σ1) ∧ ((((σ1 2 ((29 : Int32) + x1).toNatClampNeg) >>> (x2 &&& 31)) &&& (1 : Int32)) = (1 : Int32) → K (1 : Int32) σ1))))))

def wp_X2_reasonAgainst (x1 x2 x3 : Int32) (σ : Mem) (K : Int32 → Mem → Prop) : Prop :=
  wp_X2_guardOn x1 x2 σ (fun r2 σ1 => ((r2 = (-1 : Int32) → wp_X2_rankOf x3 σ1 (fun r5 σ4 => wp_X2_rankNeededAt x1 σ4 (fun r7 σ6 => ((r7 ≤ r5 → wp_X2_hasLeave x3 x2 σ6 (fun r10 σ9 => ((r10 = (0 : Int32) → wp_X2_gateHeld x3 x2 σ9 (fun r13 σ12 => ((r13 = (-1 : Int32) → wp_X2_gateHeld x3 (x2 - (1 : Int32)) σ12 (fun r16 σ15 => ((r16 = (-1 : Int32) → wp_X2_gateHeld x3 (x2 + (1 : Int32)) σ15 (fun r19 σ18 => ((r19 = (-1 : Int32) → K (0 : Int32) σ18) ∧ (¬ r19 = (-1 : Int32) → K (6 : Int32) σ18)))) ∧ (¬ r16 = (-1 : Int32) → K (5 : Int32) σ15)))) ∧ (¬ r13 = (-1 : Int32) → K (4 : Int32) σ12)))) ∧ (¬ r10 = (0 : Int32) → K (3 : Int32) σ9)))) ∧ (¬ r7 ≤ r5 → K (2 : Int32) σ6))))) ∧ (¬ r2 = (-1 : Int32) → K (1 : Int32) σ1)))

def wp_X2_detailOf (x1 x2 x3 x4 : Int32) (σ : Mem) (K : Int32 → Mem → Prop) : Prop :=
  ((x1 = (1 : Int32) → wp_X2_guardOn x2 x3 σ (fun r2 σ1 => K r2 σ1)) ∧ (x1 = (2 : Int32) → wp_X2_rankOf x4 σ (fun r5 σ4 => K r5 σ4)) ∧ (x1 = (3 : Int32) → K x3 σ) ∧ (x1 = (4 : Int32) → wp_X2_gateHeld x4 x3 σ (fun r9 σ8 => K r9 σ8)) ∧ (x1 = (5 : Int32) → wp_X2_gateHeld x4 (x3 - (1 : Int32)) σ (fun r12 σ11 => K r12 σ11)) ∧ (¬ x1 = (1 : Int32) → ¬ x1 = (2 : Int32) → ¬ x1 = (3 : Int32) → ¬ x1 = (4 : Int32) → ¬ x1 = (5 : Int32) → wp_X2_gateHeld x4 (x3 + (1 : Int32)) σ (fun r15 σ14 => K r15 σ14)))

def wpS_X2_nextSlotOf_5 (K : Int32 → Mem → Prop) (B5 : Int32 × Int32 × Mem → Prop) (x1 x2 : Int32) (σ : Mem) : Prop :=
  (((28 : Int32) ≤ x2 → K (-1 : Int32) σ) ∧ (¬ (28 : Int32) ≤ x2 → wp_X2_gateHeld x1 x2 σ (fun r5 σ4 => ((r5 = (-1 : Int32) → (∀ v7 : Int32, v7 = x2 + (1 : Int32) → B5 (x1, v7, σ4))) ∧ (¬ r5 = (-1 : Int32) → K x2 σ4)))))

def wpF_X2_nextSlotOf_5 (K : Int32 → Mem → Prop) (B5 : Int32 × Int32 × Mem → Prop) (s : Int32 × Int32 × Mem) : Prop := wpS_X2_nextSlotOf_5 K B5 s.1 s.2.1 s.2.2

def wp_X2_nextSlotOf (x1 : Int32) (σ : Mem) (K : Int32 → Mem → Prop) : Prop :=
  wp_X2_now σ (fun r2 σ1 => ∃ n, wlp (wpF_X2_nextSlotOf_5 K) n (x1, r2, σ1))

def wpJ_X2_longestGap_32 (K : Int32 → Mem → Prop) (B7 : Int32 × Int32 × Int32 × Int32 × Mem → Prop) (x1 x2 x4 y0 : Int32) (σ : Mem) : Prop :=
  (∀ v5 : Int32, v5 = (if x2 < y0 then y0 else x2) → (∀ v6 : Int32, v6 = x4 + (1 : Int32) → B7 (x1, v5, y0, v6, σ)))

def wpS_X2_longestGap_7 (K : Int32 → Mem → Prop) (B7 : Int32 × Int32 × Int32 × Int32 × Mem → Prop) (x1 x2 x3 x4 : Int32) (σ : Mem) : Prop :=
  (((28 : Int32) ≤ x4 → K x2 σ) ∧ (¬ (28 : Int32) ≤ x4 → wp_X2_gateHeld x1 x4 σ (fun r3 σ2 => ((¬ r3 = (-1 : Int32) → wpJ_X2_longestGap_32 K B7 x1 x2 x4 (0 : Int32) σ2) ∧ (r3 = (-1 : Int32) → wpJ_X2_longestGap_32 K B7 x1 x2 x4 (x3 + (1 : Int32)) σ2)))))

def wpF_X2_longestGap_7 (K : Int32 → Mem → Prop) (B7 : Int32 × Int32 × Int32 × Int32 × Mem → Prop) (s : Int32 × Int32 × Int32 × Int32 × Mem) : Prop := wpS_X2_longestGap_7 K B7 s.1 s.2.1 s.2.2.1 s.2.2.2.1 s.2.2.2.2

def wp_X2_longestGap (x1 : Int32) (σ : Mem) (K : Int32 → Mem → Prop) : Prop :=
  ∃ n, wlp (wpF_X2_longestGap_7 K) n (x1, (0 : Int32), (0 : Int32), (0 : Int32), σ)

def wpJ_X2_allRest_48 (K : Int32 → Mem → Prop) (B2 : Int32 × Mem → Prop) (x1 : Int32) (σ : Mem) : Prop :=
  (∀ v5 : Int32, v5 = x1 + (1 : Int32) → B2 (v5, σ))

def wpJ_X2_allRest_42 (K : Int32 → Mem → Prop) (B2 : Int32 × Mem → Prop) (B12 : Int32 × Int32 × Mem → Prop) (x1 x2 : Int32) (σ : Mem) : Prop :=
  (∀ v9 : Int32, v9 = x2 + (1 : Int32) → B12 (x1, v9, σ))

def wpS_X2_allRest_12 (K : Int32 → Mem → Prop) (B2 : Int32 × Mem → Prop) (B12 : Int32 × Int32 × Mem → Prop) (x1 x2 : Int32) (σ : Mem) : Prop :=
  (((28 : Int32) ≤ x2 → wpJ_X2_allRest_48 K B2 x1 σ) ∧ (¬ (28 : Int32) ≤ x2 → wp_X2_gateHeld x1 (x2 - (1 : Int32)) σ (fun r7 σ6 => ((r7 = (-1 : Int32) → wpJ_X2_allRest_42 K B2 B12 x1 x2 σ6) ∧ (¬ r7 = (-1 : Int32) → wp_X2_gateHeld x1 x2 σ6 (fun r11 σ10 => ((r11 = (-1 : Int32) → wpJ_X2_allRest_42 K B2 B12 x1 x2 σ10) ∧ (¬ r11 = (-1 : Int32) → K (0 : Int32) σ10))))))))

def wpF_X2_allRest_12 (K : Int32 → Mem → Prop) (B2 : Int32 × Mem → Prop) (B12 : Int32 × Int32 × Mem → Prop) (s : Int32 × Int32 × Mem) : Prop := wpS_X2_allRest_12 K B2 B12 s.1 s.2.1 s.2.2

def wpS_X2_allRest_2 (K : Int32 → Mem → Prop) (B2 : Int32 × Mem → Prop) (x1 : Int32) (σ : Mem) : Prop :=
  wp_X2_guards σ (fun r2 σ1 => ((r2 ≤ x1 → K (1 : Int32) σ1) ∧ (¬ r2 ≤ x1 → ∃ n, wlp (wpF_X2_allRest_12 K B2) n (x1, (1 : Int32), σ1))))

def wpF_X2_allRest_2 (K : Int32 → Mem → Prop) (B2 : Int32 × Mem → Prop) (s : Int32 × Mem) : Prop := wpS_X2_allRest_2 K B2 s.1 s.2

def wp_X2_allRest (σ : Mem) (K : Int32 → Mem → Prop) : Prop :=
  ∃ n, wlp (wpF_X2_allRest_2 K) n ((0 : Int32), σ)

def wpS_X2_computeOrderKeys_2 (K : Mem → Prop) (B2 : Int32 × Mem → Prop) (x1 : Int32) (σ : Mem) : Prop :=
  (((10 : Int32) ≤ x1 → K σ) ∧ (¬ (10 : Int32) ≤ x1 → wp_X2_dutyTotal x1 σ (fun r3 σ2 => wp_X2_rankOf x1 σ2 (fun r5 σ4 => (vp_in x1 10 ∧ (∀ σ6 : Mem, σ6 = (st σ4 3 x1.toNatClampNeg ((((r3 * (10 : Int32)) + r5) * (10 : Int32)) + x1)) → (∀ v7 : Int32, v7 = x1 + (1 : Int32) → B2 (v7, σ6))))))))

def wpF_X2_computeOrderKeys_2 (K : Mem → Prop) (B2 : Int32 × Mem → Prop) (s : Int32 × Mem) : Prop := wpS_X2_computeOrderKeys_2 K B2 s.1 s.2

def wp_X2_computeOrderKeys (σ : Mem) (K : Mem → Prop) : Prop :=
  ∃ n, wlp (wpF_X2_computeOrderKeys_2 K) n ((0 : Int32), σ)

def wpJ_X2_guardsBefore_31 (K : Int32 → Mem → Prop) (B4 : Int32 × Int32 × Int32 × Mem → Prop) (x1 x2 x3 : Int32) (σ : Mem) : Prop :=
  (∀ v6 : Int32, v6 = x3 + (1 : Int32) → B4 (x1, x2, v6, σ))

def wpS_X2_guardsBefore_4 (K : Int32 → Mem → Prop) (B4 : Int32 × Int32 × Int32 × Mem → Prop) (x1 x2 x3 : Int32) (σ : Mem) : Prop :=
  (((10 : Int32) ≤ x3 → K x2 σ) ∧ (¬ (10 : Int32) ≤ x3 → wp_X2_guards σ (fun r3 σ2 => ((r3 ≤ x3 → K x2 σ2) ∧ (¬ r3 ≤ x3 → (vp_in x3 10 ∧ ((x1 ≤ (σ2 3 x3.toNatClampNeg) → wpJ_X2_guardsBefore_31 K B4 x1 x2 x3 σ2) ∧ (¬ x1 ≤ (σ2 3 x3.toNatClampNeg) → (∀ v7 : Int32, v7 = x2 + (1 : Int32) → wpJ_X2_guardsBefore_31 K B4 x1 v7 x3 σ2)))))))))

def wpF_X2_guardsBefore_4 (K : Int32 → Mem → Prop) (B4 : Int32 × Int32 × Int32 × Mem → Prop) (s : Int32 × Int32 × Int32 × Mem) : Prop := wpS_X2_guardsBefore_4 K B4 s.1 s.2.1 s.2.2.1 s.2.2.2

def wp_X2_guardsBefore (x1 : Int32) (σ : Mem) (K : Int32 → Mem → Prop) : Prop :=
  ∃ n, wlp (wpF_X2_guardsBefore_4 K) n (x1, (0 : Int32), (0 : Int32), σ)

def wpS_X2_guardInOrder_6 (K : Int32 → Mem → Prop) (B6 : Int32 × Int32 × Mem → Prop) (x1 x2 : Int32) (σ : Mem) : Prop :=
  (((10 : Int32) ≤ x2 → K (-1 : Int32) σ) ∧ (¬ (10 : Int32) ≤ x2 → wp_X2_guards σ (fun r4 σ3 => ((r4 ≤ x2 → K (-1 : Int32) σ3) ∧ (¬ r4 ≤ x2 → (vp_in x2 10 ∧ wp_X2_guardsBefore (σ3 3 x2.toNatClampNeg) σ3 (fun r7 σ6 => ((¬ r7 = x1 → (∀ v9 : Int32, v9 = x2 + (1 : Int32) → B6 (x1, v9, σ6))) ∧ (r7 = x1 → K x2 σ6)))))))))

def wpF_X2_guardInOrder_6 (K : Int32 → Mem → Prop) (B6 : Int32 × Int32 × Mem → Prop) (s : Int32 × Int32 × Mem) : Prop := wpS_X2_guardInOrder_6 K B6 s.1 s.2.1 s.2.2

def wp_X2_guardInOrder (x1 : Int32) (σ : Mem) (K : Int32 → Mem → Prop) : Prop :=
  wp_X2_computeOrderKeys σ (fun σ1 => ∃ n, wlp (wpF_X2_guardInOrder_6 K) n (x1, (0 : Int32), σ1))

def wpJ_X2_mostNeedingGate_52 (K : Int32 → Mem → Prop) (B4 : Int32 × Int32 × Int32 × Mem → Prop) (x1 x2 x3 : Int32) (σ : Mem) : Prop :=
  (∀ v6 : Int32, v6 = x3 + (1 : Int32) → B4 (x1, x2, v6, σ))

def wpJ_X2_mostNeedingGate_50 (K : Int32 → Mem → Prop) (B4 : Int32 × Int32 × Int32 × Mem → Prop) (x1 x3 : Int32) (σ : Mem) : Prop :=
  wpJ_X2_mostNeedingGate_52 K B4 x1 x3 x3 σ

def wpJ_X2_mostNeedingGate_25 (K : Int32 → Mem → Prop) (B4 : Int32 × Int32 × Int32 × Mem → Prop) (x1 x2 x3 y0 : Int32) (σ : Mem) : Prop :=
  ((y0 = (0 : Int32) → wpJ_X2_mostNeedingGate_52 K B4 x1 x2 x3 σ) ∧ (¬ y0 = (0 : Int32) → ((x2 = (-1 : Int32) → wpJ_X2_mostNeedingGate_50 K B4 x1 x3 σ) ∧ (¬ x2 = (-1 : Int32) → wp_X2_rankNeededAt x3 σ (fun r9 σ8 => wp_X2_rankNeededAt x2 σ8 (fun r11 σ10 => ((r9 ≤ r11 → wpJ_X2_mostNeedingGate_52 K B4 x1 x2 x3 σ10) ∧ (¬ r9 ≤ r11 → wpJ_X2_mostNeedingGate_50 K B4 x1 x3 σ10))))))))

def wpS_X2_mostNeedingGate_4 (K : Int32 → Mem → Prop) (B4 : Int32 × Int32 × Int32 × Mem → Prop) (x1 x2 x3 : Int32) (σ : Mem) : Prop :=
  wp_X2_gates σ (fun r2 σ1 => ((r2 ≤ x3 → K x2 σ1) ∧ (¬ r2 ≤ x3 → ((¬ ((x1 >>> (x3 &&& 31)) &&& (1 : Int32)) = (0 : Int32) → wpJ_X2_mostNeedingGate_25 K B4 x1 x2 x3 (0 : Int32) σ1) ∧ (((x1 >>> (x3 &&& 31)) &&& (1 : Int32)) = (0 : Int32) → wpJ_X2_mostNeedingGate_25 K B4 x1 x2 x3 (1 : Int32) σ1)))))

def wpF_X2_mostNeedingGate_4 (K : Int32 → Mem → Prop) (B4 : Int32 × Int32 × Int32 × Mem → Prop) (s : Int32 × Int32 × Int32 × Mem) : Prop := wpS_X2_mostNeedingGate_4 K B4 s.1 s.2.1 s.2.2.1 s.2.2.2

def wp_X2_mostNeedingGate (x1 : Int32) (σ : Mem) (K : Int32 → Mem → Prop) : Prop :=
  ∃ n, wlp (wpF_X2_mostNeedingGate_4 K) n (x1, (-1 : Int32), (0 : Int32), σ)

def wpJ_X2_firstGuardFor_68 (K : Int32 → Mem → Prop) (B5 : Int32 × Int32 × Int32 × Int32 × Mem → Prop) (x1 x2 x3 x4 : Int32) (σ : Mem) : Prop :=
  (∀ v7 : Int32, v7 = x4 + (1 : Int32) → B5 (x1, x2, x3, v7, σ))

def wpJ_X2_firstGuardFor_47 (K : Int32 → Mem → Prop) (B5 : Int32 × Int32 × Int32 × Int32 × Mem → Prop) (x1 x2 x3 x4 y0 : Int32) (σ : Mem) : Prop :=
  ((y0 = (0 : Int32) → wpJ_X2_firstGuardFor_68 K B5 x1 x2 x3 x4 σ) ∧ (¬ y0 = (0 : Int32) → wp_X2_reasonAgainst x1 x2 x4 σ (fun r9 σ8 => ((¬ r9 = (0 : Int32) → wpJ_X2_firstGuardFor_68 K B5 x1 x2 x3 x4 σ8) ∧ (r9 = (0 : Int32) → wpJ_X2_firstGuardFor_68 K B5 x1 x2 x4 x4 σ8)))))

def wpJ_X2_firstGuardFor_42 (K : Int32 → Mem → Prop) (B5 : Int32 × Int32 × Int32 × Int32 × Mem → Prop) (x1 x2 x3 x4 : Int32) (σ : Mem) : Prop :=
  wpJ_X2_firstGuardFor_47 K B5 x1 x2 x3 x4 (1 : Int32) σ

def wpS_X2_firstGuardFor_5 (K : Int32 → Mem → Prop) (B5 : Int32 × Int32 × Int32 × Int32 × Mem → Prop) (x1 x2 x3 x4 : Int32) (σ : Mem) : Prop :=
  (((10 : Int32) ≤ x4 → K x3 σ) ∧ (¬ (10 : Int32) ≤ x4 → wp_X2_guards σ (fun r3 σ2 => ((r3 ≤ x4 → K x3 σ2) ∧ (¬ r3 ≤ x4 → ((x3 = (-1 : Int32) → wpJ_X2_firstGuardFor_42 K B5 x1 x2 x3 x4 σ2) ∧ (¬ x3 = (-1 : Int32) → (vp_in x4 10 ∧ (vp_in x3 10 ∧ (((σ2 3 x3.toNatClampNeg) ≤ (σ2 3 x4.toNatClampNeg) → wpJ_X2_firstGuardFor_47 K B5 x1 x2 x3 x4 (0 : Int32) σ2) ∧ (¬ (σ2 3 x3.toNatClampNeg) ≤ (σ2 3 x4.toNatClampNeg) → wpJ_X2_firstGuardFor_42 K B5 x1 x2 x3 x4 σ2)))))))))))

def wpF_X2_firstGuardFor_5 (K : Int32 → Mem → Prop) (B5 : Int32 × Int32 × Int32 × Int32 × Mem → Prop) (s : Int32 × Int32 × Int32 × Int32 × Mem) : Prop := wpS_X2_firstGuardFor_5 K B5 s.1 s.2.1 s.2.2.1 s.2.2.2.1 s.2.2.2.2

def wp_X2_firstGuardFor (x1 x2 : Int32) (σ : Mem) (K : Int32 → Mem → Prop) : Prop :=
  ∃ n, wlp (wpF_X2_firstGuardFor_5 K) n (x1, x2, (-1 : Int32), (0 : Int32), σ)

def wpJ_X2_fill_61 (K : Int32 → Mem → Prop) (B11 : Int32 × Int32 × Int32 × Int32 × Mem → Prop) (x1 x2 x3 x4 : Int32) (σ : Mem) : Prop :=
  (∀ v11 : Int32, v11 = x4 + (1 : Int32) → B11 (x1, x2, x3, v11, σ))

def wpS_X2_fill_11 (K : Int32 → Mem → Prop) (B11 : Int32 × Int32 × Int32 × Int32 × Mem → Prop) (x1 x2 x3 x4 : Int32) (σ : Mem) : Prop :=
  wp_X2_gates σ (fun r3 σ2 => ((r3 ≤ x4 → K x2 σ2) ∧ (¬ r3 ≤ x4 → wp_X2_mostNeedingGate x3 σ2 (fun r6 σ5 => (∀ v7 : Int32, v7 = x3 ||| ((1 : Int32) <<< (r6 &&& 31)) → wp_X2_firstGuardFor r6 x1 σ5 (fun r9 σ8 => ((r9 = (-1 : Int32) → wpJ_X2_fill_61 K B11 x1 x2 v7 x4 σ8) ∧ (¬ r9 = (-1 : Int32) → wp_X2_setDuty r6 x1 r9 σ8 (fun σ12 => (∀ v13 : Int32, v13 = x2 + (1 : Int32) → wpJ_X2_fill_61 K B11 x1 v13 v7 x4 σ12))))))))))

def wpF_X2_fill_11 (K : Int32 → Mem → Prop) (B11 : Int32 × Int32 × Int32 × Int32 × Mem → Prop) (s : Int32 × Int32 × Int32 × Int32 × Mem) : Prop := wpS_X2_fill_11 K B11 s.1 s.2.1 s.2.2.1 s.2.2.2.1 s.2.2.2.2

def wp_X2_fill (x1 : Int32) (σ : Mem) (K : Int32 → Mem → Prop) : Prop :=
  wp_X2_computeOrderKeys σ (fun σ1 => ∃ n, wlp (wpF_X2_fill_11 K) n (x1, (0 : Int32), (0 : Int32), (0 : Int32), σ1))

def wp_X2_dropLeave (x1 x2 : Int32) (σ : Mem) (K : Mem → Prop) : Prop :=
  wp_X2_isGuard x1 σ (fun r2 σ1 => ((r2 = (0 : Int32) → K σ1) ∧ (¬ r2 = (0 : Int32) → (vp_in ((29 : Int32) + x1) 179 ∧ (vp_in ((29 : Int32) + x1) 179 ∧ (∀ σ4 : Mem, σ4 = (st σ1 2 ((29 : Int32) + x1).toNatClampNeg ((σ1 2 ((29 : Int32) + x1).toNatClampNeg) &&& (((1 : Int32) <<< (x2 &&& 31)) ^^^ (-1 : Int32)))) → K σ4))))))

def wp_X2_store (x1 : Int32) (σ : Mem) (K : Mem → Prop) : Prop :=
  (∀ σ1 : Mem, σ1 = (st σ 2 2 ((σ 2 2) + x1)) → K σ1)

def wpJ_X2_feedGuardsOf_77 (K : Int32 → Mem → Prop) (B4 : Int32 × Int32 × Int32 × Mem → Prop) (x1 x2 x3 : Int32) (σ : Mem) : Prop :=
  (∀ v12 : Int32, v12 = x3 + (1 : Int32) → B4 (x1, x2, v12, σ))

def wpJ_X2_feedGuardsOf_51 (K : Int32 → Mem → Prop) (B4 : Int32 × Int32 × Int32 × Mem → Prop) (x1 x2 x3 x4 : Int32) (σ : Mem) : Prop :=
  wp_X2_isGuard x4 σ (fun r10 σ9 => ((r10 = (0 : Int32) → wpJ_X2_feedGuardsOf_77 K B4 x1 x2 x3 σ9) ∧ (¬ r10 = (0 : Int32) → (vp_in ((19 : Int32) + x4) 179 ∧ (vp_in ((19 : Int32) + x4) 179 ∧ (∀ σ13 : Mem, σ13 = (st σ9 2 ((19 : Int32) + x4).toNatClampNeg ((σ9 2 ((19 : Int32) + x4).toNatClampNeg) + (1 : Int32))) → (∀ v14 : Int32, v14 = x2 + (1 : Int32) → wpJ_X2_feedGuardsOf_77 K B4 x1 v14 x3 σ13)))))))

def wpS_X2_feedGuardsOf_4 (K : Int32 → Mem → Prop) (B4 : Int32 × Int32 × Int32 × Mem → Prop) (x1 x2 x3 : Int32) (σ : Mem) : Prop :=
  wp_X2_gates σ (fun r2 σ1 => ((r2 ≤ x3 → K x2 σ1) ∧ (¬ r2 ≤ x3 → wp_X2_guardOn x3 x1 σ1 (fun r5 σ4 => wp_X2_isGuard r5 σ4 (fun r7 σ6 => ((r7 = (0 : Int32) → wpJ_X2_feedGuardsOf_51 K B4 x1 x2 x3 r5 σ6) ∧ (¬ r7 = (0 : Int32) → (((σ6 2 2) ≤ (0 : Int32) → wpJ_X2_feedGuardsOf_51 K B4 x1 x2 x3 r5 σ6) ∧ (¬ (σ6 2 2) ≤ (0 : Int32) → (∀ σ16 : Mem, σ16 = (st σ6 2 2 ((σ6 2 2) - (1 : Int32))) → wpJ_X2_feedGuardsOf_77 K B4 x1 x2 x3 σ16))))))))))

def wpF_X2_feedGuardsOf_4 (K : Int32 → Mem → Prop) (B4 : Int32 × Int32 × Int32 × Mem → Prop) (s : Int32 × Int32 × Int32 × Mem) : Prop := wpS_X2_feedGuardsOf_4 K B4 s.1 s.2.1 s.2.2.1 s.2.2.2

def wp_X2_feedGuardsOf (x1 : Int32) (σ : Mem) (K : Int32 → Mem → Prop) : Prop :=
  ∃ n, wlp (wpF_X2_feedGuardsOf_4 K) n (x1, (0 : Int32), (0 : Int32), σ)

def wpS_X2_letPass_4 (K : Int32 → Mem → Prop) (B4 : Int32 × Int32 × Int32 × Mem → Prop) (x1 x2 x3 : Int32) (σ : Mem) : Prop :=
  ((x1 ≤ x3 → K x2 σ) ∧ (¬ x1 ≤ x3 → (((28 : Int32) ≤ (σ 2 3) → K x2 σ) ∧ (¬ (28 : Int32) ≤ (σ 2 3) → wp_X2_feedGuardsOf (σ 2 3) σ (fun r4 σ3 => (∀ v5 : Int32, v5 = x2 + r4 → (∀ σ6 : Mem, σ6 = (st σ3 2 3 ((σ3 2 3) + (1 : Int32))) → (∀ v7 : Int32, v7 = x3 + (1 : Int32) → B4 (x1, v5, v7, σ6)))))))))

def wpF_X2_letPass_4 (K : Int32 → Mem → Prop) (B4 : Int32 × Int32 × Int32 × Mem → Prop) (s : Int32 × Int32 × Int32 × Mem) : Prop := wpS_X2_letPass_4 K B4 s.1 s.2.1 s.2.2.1 s.2.2.2

def wp_X2_letPass (x1 : Int32) (σ : Mem) (K : Int32 → Mem → Prop) : Prop :=
  ∃ n, wlp (wpF_X2_letPass_4 K) n (x1, (0 : Int32), (0 : Int32), σ)

def wp_X2_copyTo_6 (σ : Mem) (K : Mem → Prop) : Prop :=
  ((¬ (179 : Int32) = (179 : Int32) → K σ) ∧ ((179 : Int32) = (179 : Int32) → (∀ σ2 : Mem, σ2 = (cp σ 2 6) → K σ2)))

def wp_X2_copyTo_7 (σ : Mem) (K : Mem → Prop) : Prop :=
  ((¬ (179 : Int32) = (179 : Int32) → K σ) ∧ ((179 : Int32) = (179 : Int32) → (∀ σ2 : Mem, σ2 = (cp σ 2 7) → K σ2)))

def wp_X2_copyTo_8 (σ : Mem) (K : Mem → Prop) : Prop :=
  ((¬ (179 : Int32) = (179 : Int32) → K σ) ∧ ((179 : Int32) = (179 : Int32) → (∀ σ2 : Mem, σ2 = (cp σ 2 8) → K σ2)))

def wp_X2_copyTo_9 (σ : Mem) (K : Mem → Prop) : Prop :=
  ((¬ (179 : Int32) = (179 : Int32) → K σ) ∧ ((179 : Int32) = (179 : Int32) → (∀ σ2 : Mem, σ2 = (cp σ 2 9) → K σ2)))

def wp_X2_copyTo_10 (σ : Mem) (K : Mem → Prop) : Prop :=
  ((¬ (179 : Int32) = (179 : Int32) → K σ) ∧ ((179 : Int32) = (179 : Int32) → (∀ σ2 : Mem, σ2 = (cp σ 2 10) → K σ2)))

def wp_X2_copyTo_11 (σ : Mem) (K : Mem → Prop) : Prop :=
  ((¬ (179 : Int32) = (179 : Int32) → K σ) ∧ ((179 : Int32) = (179 : Int32) → (∀ σ2 : Mem, σ2 = (cp σ 2 11) → K σ2)))

def wp_X2_copyTo_12 (σ : Mem) (K : Mem → Prop) : Prop :=
  ((¬ (179 : Int32) = (179 : Int32) → K σ) ∧ ((179 : Int32) = (179 : Int32) → (∀ σ2 : Mem, σ2 = (cp σ 2 12) → K σ2)))

def wp_X2_copyTo_13 (σ : Mem) (K : Mem → Prop) : Prop :=
  ((¬ (179 : Int32) = (179 : Int32) → K σ) ∧ ((179 : Int32) = (179 : Int32) → (∀ σ2 : Mem, σ2 = (cp σ 2 13) → K σ2)))

def wp_X2_copyTo_14 (σ : Mem) (K : Mem → Prop) : Prop :=
  ((¬ (179 : Int32) = (179 : Int32) → K σ) ∧ ((179 : Int32) = (179 : Int32) → (∀ σ2 : Mem, σ2 = (cp σ 2 14) → K σ2)))

def wp_X2_copyTo_23 (σ : Mem) (K : Mem → Prop) : Prop :=
  ((¬ (179 : Int32) = (179 : Int32) → K σ) ∧ ((179 : Int32) = (179 : Int32) → (∀ σ2 : Mem, σ2 = (cp σ 2 23) → K σ2)))

def wp_X2_copyFrom_6 (σ : Mem) (K : Mem → Prop) : Prop :=
  ((¬ (179 : Int32) = (179 : Int32) → K σ) ∧ ((179 : Int32) = (179 : Int32) → (∀ σ2 : Mem, σ2 = (cp σ 6 2) → K σ2)))

def wp_X2_copyFrom_7 (σ : Mem) (K : Mem → Prop) : Prop :=
  ((¬ (179 : Int32) = (179 : Int32) → K σ) ∧ ((179 : Int32) = (179 : Int32) → (∀ σ2 : Mem, σ2 = (cp σ 7 2) → K σ2)))

def wp_X2_copyFrom_8 (σ : Mem) (K : Mem → Prop) : Prop :=
  ((¬ (179 : Int32) = (179 : Int32) → K σ) ∧ ((179 : Int32) = (179 : Int32) → (∀ σ2 : Mem, σ2 = (cp σ 8 2) → K σ2)))

def wp_X2_copyFrom_9 (σ : Mem) (K : Mem → Prop) : Prop :=
  ((¬ (179 : Int32) = (179 : Int32) → K σ) ∧ ((179 : Int32) = (179 : Int32) → (∀ σ2 : Mem, σ2 = (cp σ 9 2) → K σ2)))

def wp_X2_copyFrom_10 (σ : Mem) (K : Mem → Prop) : Prop :=
  ((¬ (179 : Int32) = (179 : Int32) → K σ) ∧ ((179 : Int32) = (179 : Int32) → (∀ σ2 : Mem, σ2 = (cp σ 10 2) → K σ2)))

def wp_X2_copyFrom_11 (σ : Mem) (K : Mem → Prop) : Prop :=
  ((¬ (179 : Int32) = (179 : Int32) → K σ) ∧ ((179 : Int32) = (179 : Int32) → (∀ σ2 : Mem, σ2 = (cp σ 11 2) → K σ2)))

def wp_X2_copyFrom_12 (σ : Mem) (K : Mem → Prop) : Prop :=
  ((¬ (179 : Int32) = (179 : Int32) → K σ) ∧ ((179 : Int32) = (179 : Int32) → (∀ σ2 : Mem, σ2 = (cp σ 12 2) → K σ2)))

def wp_X2_copyFrom_13 (σ : Mem) (K : Mem → Prop) : Prop :=
  ((¬ (179 : Int32) = (179 : Int32) → K σ) ∧ ((179 : Int32) = (179 : Int32) → (∀ σ2 : Mem, σ2 = (cp σ 13 2) → K σ2)))

def wp_X2_copyFrom_14 (σ : Mem) (K : Mem → Prop) : Prop :=
  ((¬ (179 : Int32) = (179 : Int32) → K σ) ∧ ((179 : Int32) = (179 : Int32) → (∀ σ2 : Mem, σ2 = (cp σ 14 2) → K σ2)))

def wp_X2_copyFrom_23 (σ : Mem) (K : Mem → Prop) : Prop :=
  ((¬ (179 : Int32) = (179 : Int32) → K σ) ∧ ((179 : Int32) = (179 : Int32) → (∀ σ2 : Mem, σ2 = (cp σ 23 2) → K σ2)))

def wp_X1_size (σ : Mem) (K : Int32 → Mem → Prop) : Prop :=
  K (σ 4 2) σ

def wp_X1_begin (σ : Mem) (K : Mem → Prop) : Prop :=
  (((σ 4 1) < (0 : Int32) → K σ) ∧ (¬ (σ 4 1) < (0 : Int32) → (((9 : Int32) ≤ (σ 4 1) → K σ) ∧ (¬ (9 : Int32) ≤ (σ 4 1) → (vp_in (σ 4 1) 9 ∧ ((σ 4 1) = (0 : Int32) → wp_X2_copyTo_6 σ (fun σ4 => K σ4)) ∧ ((σ 4 1) = (1 : Int32) → wp_X2_copyTo_7 σ (fun σ5 => K σ5)) ∧ ((σ 4 1) = (2 : Int32) → wp_X2_copyTo_8 σ (fun σ6 => K σ6)) ∧ ((σ 4 1) = (3 : Int32) → wp_X2_copyTo_9 σ (fun σ7 => K σ7)) ∧ ((σ 4 1) = (4 : Int32) → wp_X2_copyTo_10 σ (fun σ8 => K σ8)) ∧ ((σ 4 1) = (5 : Int32) → wp_X2_copyTo_11 σ (fun σ9 => K σ9)) ∧ ((σ 4 1) = (6 : Int32) → wp_X2_copyTo_12 σ (fun σ10 => K σ10)) ∧ ((σ 4 1) = (7 : Int32) → wp_X2_copyTo_13 σ (fun σ11 => K σ11)) ∧ ((σ 4 1) = (8 : Int32) → wp_X2_copyTo_14 σ (fun σ12 => K σ12)))))))

def wpJ_X1_end_22 (K : Mem → Prop) (y1 : Int32) (σ : Mem) : Prop :=
  (∀ σ2 : Mem, σ2 = (st σ 4 1 y1) → (∀ σ3 : Mem, σ3 = (st σ2 4 2 (if ((σ2 4 2) + (1 : Int32)) < (8 : Int32) then ((σ2 4 2) + (1 : Int32)) else (8 : Int32))) → K σ3))

def wp_X1_end (σ : Mem) (K : Mem → Prop) : Prop :=
  (((9 : Int32) ≤ ((σ 4 1) + (1 : Int32)) → wpJ_X1_end_22 K (0 : Int32) σ) ∧ (¬ (9 : Int32) ≤ ((σ 4 1) + (1 : Int32)) → wpJ_X1_end_22 K ((σ 4 1) + (1 : Int32)) σ))

def wp_X1_keep (σ : Mem) (K : Mem → Prop) : Prop :=
  wp_X1_begin σ (fun σ1 => wp_X1_end σ1 (fun σ2 => K σ2))

def wp_X1_backOut (σ : Mem) (K : Mem → Prop) : Prop :=
  (((σ 4 1) < (0 : Int32) → K σ) ∧ (¬ (σ 4 1) < (0 : Int32) → (((9 : Int32) ≤ (σ 4 1) → K σ) ∧ (¬ (9 : Int32) ≤ (σ 4 1) → (vp_in (σ 4 1) 9 ∧ ((σ 4 1) = (0 : Int32) → wp_X2_copyFrom_6 σ (fun σ4 => K σ4)) ∧ ((σ 4 1) = (1 : Int32) → wp_X2_copyFrom_7 σ (fun σ5 => K σ5)) ∧ ((σ 4 1) = (2 : Int32) → wp_X2_copyFrom_8 σ (fun σ6 => K σ6)) ∧ ((σ 4 1) = (3 : Int32) → wp_X2_copyFrom_9 σ (fun σ7 => K σ7)) ∧ ((σ 4 1) = (4 : Int32) → wp_X2_copyFrom_10 σ (fun σ8 => K σ8)) ∧ ((σ 4 1) = (5 : Int32) → wp_X2_copyFrom_11 σ (fun σ9 => K σ9)) ∧ ((σ 4 1) = (6 : Int32) → wp_X2_copyFrom_12 σ (fun σ10 => K σ10)) ∧ ((σ 4 1) = (7 : Int32) → wp_X2_copyFrom_13 σ (fun σ11 => K σ11)) ∧ ((σ 4 1) = (8 : Int32) → wp_X2_copyFrom_14 σ (fun σ12 => K σ12)))))))

def wpJ_X1_takeBack_36 (K : Mem → Prop) (y1 : Int32) (σ : Mem) : Prop :=
  (∀ σ4 : Mem, σ4 = (st σ 4 1 y1) → wp_X1_backOut σ4 (fun σ5 => K σ5))

def wp_X1_takeBack (σ : Mem) (K : Mem → Prop) : Prop :=
  (((σ 4 2) ≤ (0 : Int32) → K σ) ∧ (¬ (σ 4 2) ≤ (0 : Int32) → (∀ σ2 : Mem, σ2 = (st σ 4 2 ((σ 4 2) - (1 : Int32))) → (((σ2 4 1) ≤ (0 : Int32) → wpJ_X1_takeBack_36 K (8 : Int32) σ2) ∧ (¬ (σ2 4 1) ≤ (0 : Int32) → wpJ_X1_takeBack_36 K ((σ2 4 1) - (1 : Int32)) σ2)))))

def wp_X1_forget (σ : Mem) (K : Mem → Prop) : Prop :=
  (∀ σ1 : Mem, σ1 = (st σ 4 2 (0 : Int32)) → K σ1)

def wpJ_J6_numberOfTrailingZeros_0f7a4_74 (K : Int32 → Mem → Prop) (x0 x1 : Int32) (σ : Mem) : Prop :=
  K (x1 + ((x0.toUInt32 >>> ((1 : Int32).toUInt32 &&& Int32.toUInt32 31)).toInt32)) σ

def wpJ_J6_numberOfTrailingZeros_0f7a4_62 (K : Int32 → Mem → Prop) (x0 x1 : Int32) (σ : Mem) : Prop :=
  ((x0 ≤ (4 : Int32) → wpJ_J6_numberOfTrailingZeros_0f7a4_74 K x0 x1 σ) ∧ (¬ x0 ≤ (4 : Int32) → (∀ v7 : Int32, v7 = x1 + (2 : Int32) → (∀ v8 : Int32, v8 = (x0.toUInt32 >>> ((2 : Int32).toUInt32 &&& Int32.toUInt32 31)).toInt32 → wpJ_J6_numberOfTrailingZeros_0f7a4_74 K v8 v7 σ))))

def wpJ_J6_numberOfTrailingZeros_0f7a4_49 (K : Int32 → Mem → Prop) (x0 x1 : Int32) (σ : Mem) : Prop :=
  ((x0 ≤ (16 : Int32) → wpJ_J6_numberOfTrailingZeros_0f7a4_62 K x0 x1 σ) ∧ (¬ x0 ≤ (16 : Int32) → (∀ v9 : Int32, v9 = x1 + (4 : Int32) → (∀ v10 : Int32, v10 = (x0.toUInt32 >>> ((4 : Int32).toUInt32 &&& Int32.toUInt32 31)).toInt32 → wpJ_J6_numberOfTrailingZeros_0f7a4_62 K v10 v9 σ))))

def wpJ_J6_numberOfTrailingZeros_0f7a4_34 (K : Int32 → Mem → Prop) (x0 x1 : Int32) (σ : Mem) : Prop :=
  ((x0 ≤ (256 : Int32) → wpJ_J6_numberOfTrailingZeros_0f7a4_49 K x0 x1 σ) ∧ (¬ x0 ≤ (256 : Int32) → (∀ v11 : Int32, v11 = x1 + (8 : Int32) → (∀ v12 : Int32, v12 = (x0.toUInt32 >>> ((8 : Int32).toUInt32 &&& Int32.toUInt32 31)).toInt32 → wpJ_J6_numberOfTrailingZeros_0f7a4_49 K v12 v11 σ))))

def wp_J6_numberOfTrailingZeros_0f7a4 (x0 : Int32) (σ : Mem) (K : Int32 → Mem → Prop) : Prop :=
  (∀ v1 : Int32, v1 = (x0 ^^^ (-1 : Int32)) &&& (x0 - (1 : Int32)) → (((0 : Int32) < v1 → ((v1 ≤ (65536 : Int32) → wpJ_J6_numberOfTrailingZeros_0f7a4_34 K v1 (1 : Int32) σ) ∧ (¬ v1 ≤ (65536 : Int32) → (∀ v13 : Int32, v13 = (1 : Int32) + (16 : Int32) → (∀ v14 : Int32, v14 = (v1.toUInt32 >>> ((16 : Int32).toUInt32 &&& Int32.toUInt32 31)).toInt32 → wpJ_J6_numberOfTrailingZeros_0f7a4_34 K v14 v13 σ))))) ∧ (¬ (0 : Int32) < v1 → K (v1 &&& (32 : Int32)) σ)))

def wp_J6_bitCount_0f7a4 (x0 : Int32) (σ : Mem) (K : Int32 → Mem → Prop) : Prop :=
  (∀ v1 : Int32, v1 = x0 - (((x0.toUInt32 >>> ((1 : Int32).toUInt32 &&& Int32.toUInt32 31)).toInt32) &&& (1431655765 : Int32)) → (∀ v2 : Int32, v2 = (v1 &&& (858993459 : Int32)) + (((v1.toUInt32 >>> ((2 : Int32).toUInt32 &&& Int32.toUInt32 31)).toInt32) &&& (858993459 : Int32)) → (∀ v3 : Int32, v3 = (v2 + ((v2.toUInt32 >>> ((4 : Int32).toUInt32 &&& Int32.toUInt32 31)).toInt32)) &&& (252645135 : Int32) → (∀ v4 : Int32, v4 = v3 + ((v3.toUInt32 >>> ((8 : Int32).toUInt32 &&& Int32.toUInt32 31)).toInt32) → (∀ v5 : Int32, v5 = v4 + ((v4.toUInt32 >>> ((16 : Int32).toUInt32 &&& Int32.toUInt32 31)).toInt32) → K (v5 &&& (63 : Int32)) σ)))))

def wpJ_X3_guardsThatFit_32 (K : Int32 → Mem → Prop) (B5 : Int32 × Int32 × Int32 × Int32 × Mem → Prop) (x1 x2 x3 x4 : Int32) (σ : Mem) : Prop :=
  (∀ v7 : Int32, v7 = x4 + (1 : Int32) → B5 (x1, x2, x3, v7, σ))

def wpS_X3_guardsThatFit_5 (K : Int32 → Mem → Prop) (B5 : Int32 × Int32 × Int32 × Int32 × Mem → Prop) (x1 x2 x3 x4 : Int32) (σ : Mem) : Prop :=
  wp_X2_guards σ (fun r2 σ1 => ((r2 ≤ x4 → K x3 σ1) ∧ (¬ r2 ≤ x4 → wp_X2_reasonAgainst x1 x2 x4 σ1 (fun r5 σ4 => ((¬ r5 = (0 : Int32) → wpJ_X3_guardsThatFit_32 K B5 x1 x2 x3 x4 σ4) ∧ (r5 = (0 : Int32) → (∀ v8 : Int32, v8 = x3 ||| ((1 : Int32) <<< (x4 &&& 31)) → wpJ_X3_guardsThatFit_32 K B5 x1 x2 v8 x4 σ4)))))))

def wpF_X3_guardsThatFit_5 (K : Int32 → Mem → Prop) (B5 : Int32 × Int32 × Int32 × Int32 × Mem → Prop) (s : Int32 × Int32 × Int32 × Int32 × Mem) : Prop := wpS_X3_guardsThatFit_5 K B5 s.1 s.2.1 s.2.2.1 s.2.2.2.1 s.2.2.2.2

def wp_X3_guardsThatFit (x1 x2 : Int32) (σ : Mem) (K : Int32 → Mem → Prop) : Prop :=
  ∃ n, wlp (wpF_X3_guardsThatFit_5 K) n (x1, x2, (0 : Int32), (0 : Int32), σ)

def wpJ_X3_prepare_30 (K : Mem → Prop) (B2 : Int32 × Int32 × Mem → Prop) (x2 x3 y1 y2 : Int32) (σ : Mem) : Prop :=
  (vp_in y1 5 ∧ (∀ σ5 : Mem, σ5 = (st σ 16 y1.toNatClampNeg y2) → (∀ v6 : Int32, v6 = x3 + (1 : Int32) → B2 (x2, v6, σ5))))

def wpS_X3_prepare_2 (K : Mem → Prop) (B2 : Int32 × Int32 × Mem → Prop) (x2 x3 : Int32) (σ : Mem) : Prop :=
  (((5 : Int32) ≤ x3 → K σ) ∧ (¬ (5 : Int32) ≤ x3 → wp_X2_isGate x3 σ (fun r3 σ2 => ((r3 = (0 : Int32) → wpJ_X3_prepare_30 K B2 x2 x3 x3 (0 : Int32) σ2) ∧ (¬ r3 = (0 : Int32) → wp_X3_guardsThatFit x3 x2 σ2 (fun r8 σ7 => wpJ_X3_prepare_30 K B2 x2 x3 x3 r8 σ7))))))

def wpF_X3_prepare_2 (K : Mem → Prop) (B2 : Int32 × Int32 × Mem → Prop) (s : Int32 × Int32 × Mem) : Prop := wpS_X3_prepare_2 K B2 s.1 s.2.1 s.2.2

def wp_X3_prepare (x2 : Int32) (σ : Mem) (K : Mem → Prop) : Prop :=
  ∃ n, wlp (wpF_X3_prepare_2 K) n (x2, (0 : Int32), σ)

def wpJ_X3_finds_100 (RR : Int32 → Int32 → Mem → (Int32 → Mem → Prop) → Prop) (K : Int32 → Mem → Prop) (B18 : Int32 × Int32 × Int32 × Mem → Prop) (x1 x2 x3 : Int32) (σ : Mem) : Prop :=
  (∀ v7 : Int32, v7 = x3 + (1 : Int32) → B18 (x1, x2, v7, σ))

def wpJ_X3_finds_89 (RR : Int32 → Int32 → Mem → (Int32 → Mem → Prop) → Prop) (K : Int32 → Mem → Prop) (x1 x3 : Int32) (σ : Mem) : Prop :=
  (vp_in x3 10 ∧ (∀ σ12 : Mem, σ12 = (st σ 17 x3.toNatClampNeg (x1 + (1 : Int32))) → K (1 : Int32) σ12))

def wpS_X3_finds_18 (RR : Int32 → Int32 → Mem → (Int32 → Mem → Prop) → Prop) (K : Int32 → Mem → Prop) (B18 : Int32 × Int32 × Int32 × Mem → Prop) (x1 x2 x3 : Int32) (σ : Mem) : Prop :=
  (((10 : Int32) ≤ x3 → K (0 : Int32) σ) ∧ (¬ (10 : Int32) ≤ x3 → (∀ v5 : Int32, v5 = (1 : Int32) <<< (x3 &&& 31) → (vp_in x1 5 ∧ ((((σ 16 x1.toNatClampNeg) &&& v5) = (0 : Int32) → wpJ_X3_finds_100 RR K B18 x1 x2 x3 σ) ∧ (¬ ((σ 16 x1.toNatClampNeg) &&& v5) = (0 : Int32) → ((¬ ((σ 15 2) &&& v5) = (0 : Int32) → wpJ_X3_finds_100 RR K B18 x1 x2 x3 σ) ∧ (((σ 15 2) &&& v5) = (0 : Int32) → (∀ σ9 : Mem, σ9 = (st σ 15 2 ((σ 15 2) ||| v5)) → (vp_in x3 10 ∧ (∀ v10 : Int32, v10 = σ9 17 x3.toNatClampNeg → ((v10 = (0 : Int32) → wpJ_X3_finds_89 RR K x1 x3 σ9) ∧ (¬ v10 = (0 : Int32) → RR (v10 - (1 : Int32)) (x2 + (1 : Int32)) σ9 (fun r14 σ13 => ((r14 = (0 : Int32) → wpJ_X3_finds_100 RR K B18 x1 x2 x3 σ13) ∧ (¬ r14 = (0 : Int32) → wpJ_X3_finds_89 RR K x1 x3 σ13))))))))))))))))

def wpF_X3_finds_18 (RR : Int32 → Int32 → Mem → (Int32 → Mem → Prop) → Prop) (K : Int32 → Mem → Prop) (B18 : Int32 × Int32 × Int32 × Mem → Prop) (s : Int32 × Int32 × Int32 × Mem) : Prop := wpS_X3_finds_18 RR K B18 s.1 s.2.1 s.2.2.1 s.2.2.2

def wp_X3_finds (RR : Int32 → Int32 → Mem → (Int32 → Mem → Prop) → Prop) (x1 x2 : Int32) (σ : Mem) (K : Int32 → Mem → Prop) : Prop :=
  (((5 : Int32) ≤ x2 → K (0 : Int32) σ) ∧ (¬ (5 : Int32) ≤ x2 → ((x1 < (0 : Int32) → K (0 : Int32) σ) ∧ (¬ x1 < (0 : Int32) → ((x1 < (5 : Int32) → ∃ n, wlp (wpF_X3_finds_18 RR K) n (x1, x2, (0 : Int32), σ)) ∧ (¬ x1 < (5 : Int32) → K (0 : Int32) σ))))))

def wp_X3_findsN : Nat → Int32 → Int32 → Mem → (Int32 → Mem → Prop) → Prop
  | 0, _, _, _, _ => False
  | n + 1, x1, x2, σ, K => wp_X3_finds (wp_X3_findsN n) x1 x2 σ K
def wp_X3_finds6 (x1 x2 : Int32) (σ : Mem) (K : Int32 → Mem → Prop) : Prop := wp_X3_findsN 6 x1 x2 σ K

def wpJ_X3_countByPaths_47 (K : Int32 → Mem → Prop) (B25 : Int32 × Int32 × Mem → Prop) (x1 x2 : Int32) (σ : Mem) : Prop :=
  (∀ v7 : Int32, v7 = x2 + (1 : Int32) → B25 (x1, v7, σ))

def wpS_X3_countByPaths_25 (K : Int32 → Mem → Prop) (B25 : Int32 × Int32 × Mem → Prop) (x1 x2 : Int32) (σ : Mem) : Prop :=
  (((5 : Int32) ≤ x2 → K x1 σ) ∧ (¬ (5 : Int32) ≤ x2 → (∀ σ3 : Mem, σ3 = (st σ 15 2 (0 : Int32)) → wp_X3_finds6 x2 (0 : Int32) σ3 (fun r5 σ4 => ((r5 = (0 : Int32) → wpJ_X3_countByPaths_47 K B25 x1 x2 σ4) ∧ (¬ r5 = (0 : Int32) → (∀ v8 : Int32, v8 = x1 + (1 : Int32) → wpJ_X3_countByPaths_47 K B25 v8 x2 σ4)))))))

def wpF_X3_countByPaths_25 (K : Int32 → Mem → Prop) (B25 : Int32 × Int32 × Mem → Prop) (s : Int32 × Int32 × Mem) : Prop := wpS_X3_countByPaths_25 K B25 s.1 s.2.1 s.2.2

def wpJ_X3_countByPaths_21 (K : Int32 → Mem → Prop) (σ : Mem) : Prop :=
  ∃ n, wlp (wpF_X3_countByPaths_25 K) n ((0 : Int32), (0 : Int32), σ)

def wpS_X3_countByPaths_2 (K : Int32 → Mem → Prop) (B2 : Int32 × Mem → Prop) (x1 : Int32) (σ : Mem) : Prop :=
  (((10 : Int32) ≤ x1 → wpJ_X3_countByPaths_21 K σ) ∧ (¬ (10 : Int32) ≤ x1 → (vp_in x1 10 ∧ (∀ σ9 : Mem, σ9 = (st σ 17 x1.toNatClampNeg (0 : Int32)) → (∀ v10 : Int32, v10 = x1 + (1 : Int32) → B2 (v10, σ9))))))

def wpF_X3_countByPaths_2 (K : Int32 → Mem → Prop) (B2 : Int32 × Mem → Prop) (s : Int32 × Mem) : Prop := wpS_X3_countByPaths_2 K B2 s.1 s.2

def wp_X3_countByPaths (σ : Mem) (K : Int32 → Mem → Prop) : Prop :=
  ∃ n, wlp (wpF_X3_countByPaths_2 K) n ((0 : Int32), σ)

def wpJ_X3_countBySets_43 (K : Int32 → Mem → Prop) (B4 : Int32 × Int32 × Mem → Prop) (x1 x2 : Int32) (σ : Mem) : Prop :=
  wp_J6_bitCount_0f7a4 x2 σ (fun r6 σ5 => (vp_in x2 32 ∧ wp_J6_bitCount_0f7a4 (σ5 18 x2.toNatClampNeg) σ5 (fun r8 σ7 => (∀ v9 : Int32, v9 = r6 - r8 → (∀ v10 : Int32, v10 = (if x1 < v9 then v9 else x1) → (∀ v11 : Int32, v11 = x2 + (1 : Int32) → B4 (v10, v11, σ7)))))))

def wpS_X3_countBySets_4 (K : Int32 → Mem → Prop) (B4 : Int32 × Int32 × Mem → Prop) (x1 x2 : Int32) (σ : Mem) : Prop :=
  (((32 : Int32) ≤ x2 → K ((5 : Int32) - x1) σ) ∧ (¬ (32 : Int32) ≤ x2 → wp_J6_numberOfTrailingZeros_0f7a4 x2 σ (fun r3 σ2 => (((5 : Int32) ≤ r3 → wpJ_X3_countBySets_43 K B4 x1 x2 σ2) ∧ (¬ (5 : Int32) ≤ r3 → (vp_in (x2 &&& (x2 - (1 : Int32))) 32 ∧ (vp_in r3 5 ∧ (vp_in x2 32 ∧ (∀ σ12 : Mem, σ12 = (st σ2 18 x2.toNatClampNeg ((σ2 18 (x2 &&& (x2 - (1 : Int32))).toNatClampNeg) ||| (σ2 16 r3.toNatClampNeg))) → wpJ_X3_countBySets_43 K B4 x1 x2 σ12)))))))))

def wpF_X3_countBySets_4 (K : Int32 → Mem → Prop) (B4 : Int32 × Int32 × Mem → Prop) (s : Int32 × Int32 × Mem) : Prop := wpS_X3_countBySets_4 K B4 s.1 s.2.1 s.2.2

def wp_X3_countBySets (σ : Mem) (K : Int32 → Mem → Prop) : Prop :=
  ∃ n, wlp (wpF_X3_countBySets_4 K) n ((0 : Int32), (1 : Int32), σ)

def wp_X0_isFull (σ : Mem) (K : Int32 → Mem → Prop) : Prop :=
  (((σ 19 1) < (60 : Int32) → K (0 : Int32) σ) ∧ (¬ (σ 19 1) < (60 : Int32) → K (1 : Int32) σ))

def wp_X0_append (x1 : Int32) (σ : Mem) (K : Int32 → Mem → Prop) : Prop :=
  (((σ 19 1) < (0 : Int32) → K (σ 19 1) σ) ∧ (¬ (σ 19 1) < (0 : Int32) → (((60 : Int32) ≤ (σ 19 1) → K (σ 19 1) σ) ∧ (¬ (60 : Int32) ≤ (σ 19 1) → (vp_in (σ 19 1) 60 ∧ (∀ σ3 : Mem, σ3 = (st σ 20 (σ 19 1).toNatClampNeg (vp_nar .char x1)) → (∀ σ4 : Mem, σ4 = (st σ3 19 1 ((σ3 19 1) + (1 : Int32))) → K (σ4 19 1) σ4)))))))

def wp_X0_empty (σ : Mem) (K : Mem → Prop) : Prop :=
  (∀ σ1 : Mem, σ1 = (st σ 19 1 (0 : Int32)) → K σ1)

def wp_X0_commands (σ : Mem) (K : Int32 → Mem → Prop) : Prop :=
  K (σ 19 4) σ

def wp_X0_firstWrong (σ : Mem) (K : Int32 → Mem → Prop) : Prop :=
  K (σ 19 5) σ

def wp_X0_kind (x1 : Int32) (σ : Mem) (K : Int32 → Mem → Prop) : Prop :=
  ((x1 < (0 : Int32) → K (-1 : Int32) σ) ∧ (¬ x1 < (0 : Int32) → (((9 : Int32) ≤ x1 → K (-1 : Int32) σ) ∧ (¬ (9 : Int32) ≤ x1 → (vp_in x1 9 ∧ K (σ 21 x1.toNatClampNeg) σ)))))

def wp_X0_value (x1 x2 : Int32) (σ : Mem) (K : Int32 → Mem → Prop) : Prop :=
  (∀ v1 : Int32, v1 = (x1 * (3 : Int32)) + x2 → ((v1 < (0 : Int32) → K (0 : Int32) σ) ∧ (¬ v1 < (0 : Int32) → (((27 : Int32) ≤ v1 → K (0 : Int32) σ) ∧ (¬ (27 : Int32) ≤ v1 → (vp_in v1 27 ∧ K (σ 22 v1.toNatClampNeg) σ))))))

def wp_X0_isDigit (x0 : Int32) (σ : Mem) (K : Int32 → Mem → Prop) : Prop :=
  ((x0 < (48 : Int32) → K (0 : Int32) σ) ∧ (¬ x0 < (48 : Int32) → (((57 : Int32) < x0 → K (0 : Int32) σ) ∧ (¬ (57 : Int32) < x0 → K (1 : Int32) σ))))

def wp_X0_characterAt (x1 : Int32) (σ : Mem) (K : Int32 → Mem → Prop) : Prop :=
  ((x1 < (0 : Int32) → K (-1 : Int32) σ) ∧ (¬ x1 < (0 : Int32) → (((σ 19 1) ≤ x1 → K (-1 : Int32) σ) ∧ (¬ (σ 19 1) ≤ x1 → (((60 : Int32) ≤ x1 → K (-1 : Int32) σ) ∧ (¬ (60 : Int32) ≤ x1 → (vp_in x1 60 ∧ K (σ 20 x1.toNatClampNeg) σ)))))))

def wp_X0_keepValue (x1 x2 : Int32) (σ : Mem) (K : Mem → Prop) : Prop :=
  (∀ v1 : Int32, v1 = ((σ 19 4) * (3 : Int32)) + x1 → ((v1 < (0 : Int32) → K σ) ∧ (¬ v1 < (0 : Int32) → (((27 : Int32) ≤ v1 → K σ) ∧ (¬ (27 : Int32) ≤ v1 → (vp_in v1 27 ∧ (∀ σ4 : Mem, σ4 = (st σ 22 v1.toNatClampNeg x2) → K σ4)))))))

def wp_X4_isRank (x0 : Int32) (σ : Mem) (K : Int32 → Mem → Prop) : Prop :=
  ((x0 < (1 : Int32) → K (0 : Int32) σ) ∧ (¬ x0 < (1 : Int32) → (((9 : Int32) < x0 → K (0 : Int32) σ) ∧ (¬ (9 : Int32) < x0 → K (1 : Int32) σ))))

def wp_X4_problemOfGate (x1 : Int32) (σ : Mem) (K : Int32 → Mem → Prop) : Prop :=
  wp_X4_isRank x1 σ (fun r2 σ1 => ((¬ r2 = (0 : Int32) → wp_X2_gates σ1 (fun r5 σ4 => ((r5 < (5 : Int32) → K (0 : Int32) σ4) ∧ (¬ r5 < (5 : Int32) → K (3 : Int32) σ4)))) ∧ (r2 = (0 : Int32) → K (2 : Int32) σ1)))

def wp_X4_problemOfGuard (x1 : Int32) (σ : Mem) (K : Int32 → Mem → Prop) : Prop :=
  wp_X4_isRank x1 σ (fun r2 σ1 => ((¬ r2 = (0 : Int32) → wp_X2_guards σ1 (fun r5 σ4 => ((r5 < (10 : Int32) → K (0 : Int32) σ4) ∧ (¬ r5 < (10 : Int32) → K (3 : Int32) σ4)))) ∧ (r2 = (0 : Int32) → K (2 : Int32) σ1)))

def wp_X4_keepRefusal (x1 x2 : Int32) (σ : Mem) (K : Mem → Prop) : Prop :=
  (∀ σ1 : Mem, σ1 = (st σ 0 8 x1) → (∀ σ2 : Mem, σ2 = (st σ1 0 9 x2) → K σ2))

def wp_X4_isRefused (x1 x2 x3 : Int32) (σ : Mem) (K : Int32 → Mem → Prop) : Prop :=
  wp_X2_reasonAgainst x1 x2 x3 σ (fun r2 σ1 => ((¬ r2 = (0 : Int32) → wp_X2_detailOf r2 x1 x2 x3 σ1 (fun r5 σ4 => wp_X4_keepRefusal r2 r5 σ4 (fun σ6 => K (1 : Int32) σ6))) ∧ (r2 = (0 : Int32) → K (0 : Int32) σ1)))

def wp_X4_problemOfDuty (x1 x2 x3 : Int32) (σ : Mem) (K : Int32 → Mem → Prop) : Prop :=
  wp_X2_isGate x1 σ (fun r2 σ1 => ((r2 = (0 : Int32) → K (1 : Int32) σ1) ∧ (¬ r2 = (0 : Int32) → wp_X2_isSlot x2 σ1 (fun r5 σ4 => ((r5 = (0 : Int32) → K (1 : Int32) σ4) ∧ (¬ r5 = (0 : Int32) → wp_X2_isGuard x3 σ4 (fun r8 σ7 => ((¬ r8 = (0 : Int32) → wp_X2_hasPassed x2 σ7 (fun r11 σ10 => ((r11 = (0 : Int32) → wp_X4_isRefused x1 x2 x3 σ10 (fun r14 σ13 => ((r14 = (0 : Int32) → K (0 : Int32) σ13) ∧ (¬ r14 = (0 : Int32) → K (5 : Int32) σ13)))) ∧ (¬ r11 = (0 : Int32) → K (3 : Int32) σ10)))) ∧ (r8 = (0 : Int32) → K (1 : Int32) σ7)))))))))

def wp_X4_problemOfFreeing (x1 x2 : Int32) (σ : Mem) (K : Int32 → Mem → Prop) : Prop :=
  wp_X2_isGate x1 σ (fun r2 σ1 => ((r2 = (0 : Int32) → K (1 : Int32) σ1) ∧ (¬ r2 = (0 : Int32) → wp_X2_isSlot x2 σ1 (fun r5 σ4 => ((¬ r5 = (0 : Int32) → wp_X2_hasPassed x2 σ4 (fun r8 σ7 => ((r8 = (0 : Int32) → wp_X2_guardOn x1 x2 σ7 (fun r11 σ10 => ((¬ r11 = (-1 : Int32) → K (0 : Int32) σ10) ∧ (r11 = (-1 : Int32) → K (4 : Int32) σ10)))) ∧ (¬ r8 = (0 : Int32) → K (3 : Int32) σ7)))) ∧ (r5 = (0 : Int32) → K (1 : Int32) σ4))))))

def wpJ_X4_isExchangeRefused_81 (K : Int32 → Mem → Prop) (x1 x2 x3 x4 x5 x6 x7 : Int32) (σ : Mem) : Prop :=
  wp_X2_setDuty x1 x2 x5 σ (fun σ10 => wp_X2_setDuty x3 x4 x6 σ10 (fun σ11 => (narrow .boolean (.int x7) = .int x7 ∧ K x7 σ11)))

def wp_X4_isExchangeRefused (x1 x2 x3 x4 : Int32) (σ : Mem) (K : Int32 → Mem → Prop) : Prop :=
  wp_X2_guardOn x1 x2 σ (fun r2 σ1 => wp_X2_guardOn x3 x4 σ1 (fun r4 σ3 => wp_X2_setDuty x1 x2 (-1 : Int32) σ3 (fun σ5 => wp_X2_setDuty x3 x4 (-1 : Int32) σ5 (fun σ6 => wp_X4_isRefused x1 x2 r4 σ6 (fun r8 σ7 => ((¬ r8 = (0 : Int32) → wpJ_X4_isExchangeRefused_81 K x1 x2 x3 x4 r2 r4 r8 σ7) ∧ (r8 = (0 : Int32) → wp_X2_setDuty x1 x2 r4 σ7 (fun σ12 => wp_X4_isRefused x3 x4 r2 σ12 (fun r14 σ13 => wpJ_X4_isExchangeRefused_81 K x1 x2 x3 x4 r2 r4 r14 σ13)))))))))

def wpJ_X4_problemOfExchange_60 (K : Int32 → Mem → Prop) (x1 x2 x3 x4 : Int32) (σ : Mem) : Prop :=
  wp_X2_hasPassed x2 σ (fun r15 σ14 => ((¬ r15 = (0 : Int32) → K (3 : Int32) σ14) ∧ (r15 = (0 : Int32) → wp_X2_hasPassed x4 σ14 (fun r18 σ17 => ((r18 = (0 : Int32) → wp_X2_guardOn x1 x2 σ17 (fun r21 σ20 => ((r21 = (-1 : Int32) → K (4 : Int32) σ20) ∧ (¬ r21 = (-1 : Int32) → wp_X2_guardOn x3 x4 σ20 (fun r24 σ23 => ((¬ r24 = (-1 : Int32) → wp_X4_isExchangeRefused x1 x2 x3 x4 σ23 (fun r27 σ26 => ((r27 = (0 : Int32) → K (0 : Int32) σ26) ∧ (¬ r27 = (0 : Int32) → K (5 : Int32) σ26)))) ∧ (r24 = (-1 : Int32) → K (4 : Int32) σ23))))))) ∧ (¬ r18 = (0 : Int32) → K (3 : Int32) σ17))))))

def wp_X4_problemOfExchange (x1 x2 x3 x4 : Int32) (σ : Mem) (K : Int32 → Mem → Prop) : Prop :=
  wp_X2_isGate x1 σ (fun r2 σ1 => ((r2 = (0 : Int32) → K (1 : Int32) σ1) ∧ (¬ r2 = (0 : Int32) → wp_X2_isSlot x2 σ1 (fun r5 σ4 => ((r5 = (0 : Int32) → K (1 : Int32) σ4) ∧ (¬ r5 = (0 : Int32) → wp_X2_isGate x3 σ4 (fun r8 σ7 => ((r8 = (0 : Int32) → K (1 : Int32) σ7) ∧ (¬ r8 = (0 : Int32) → wp_X2_isSlot x4 σ7 (fun r11 σ10 => ((¬ r11 = (0 : Int32) → ((¬ x1 = x3 → wpJ_X4_problemOfExchange_60 K x1 x2 x3 x4 σ10) ∧ (x1 = x3 → ((¬ x2 = x4 → wpJ_X4_problemOfExchange_60 K x1 x2 x3 x4 σ10) ∧ (x2 = x4 → K (2 : Int32) σ10))))) ∧ (r11 = (0 : Int32) → K (1 : Int32) σ10))))))))))))

def wp_X4_problemOfFilling (x1 : Int32) (σ : Mem) (K : Int32 → Mem → Prop) : Prop :=
  wp_X2_isSlot x1 σ (fun r2 σ1 => ((¬ r2 = (0 : Int32) → wp_X2_hasPassed x1 σ1 (fun r5 σ4 => ((r5 = (0 : Int32) → K (0 : Int32) σ4) ∧ (¬ r5 = (0 : Int32) → K (3 : Int32) σ4)))) ∧ (r2 = (0 : Int32) → K (1 : Int32) σ1)))

def wp_X2_leaveTotal (x1 : Int32) (σ : Mem) (K : Int32 → Mem → Prop) : Prop :=
  wp_X2_isGuard x1 σ (fun r2 σ1 => ((r2 = (0 : Int32) → K (0 : Int32) σ1) ∧ (¬ r2 = (0 : Int32) → (vp_in ((29 : Int32) + x1) 179 ∧ wp_J6_bitCount_0f7a4 (σ1 2 ((29 : Int32) + x1).toNatClampNeg) σ1 (fun r5 σ4 => K r5 σ4)))))

def wpJ_X2_addLeave_53 (K : Int32 → Mem → Prop) (x1 x4 : Int32) (σ : Mem) : Prop :=
  wp_X2_leaveTotal x1 σ (fun r5 σ4 => K (r5 - x4) σ4)

def wpJ_X2_addLeave_47 (K : Int32 → Mem → Prop) (B10 : Int32 × Int32 × Int32 × Int32 × Mem → Prop) (x1 x3 x4 x5 : Int32) (σ : Mem) : Prop :=
  (∀ v10 : Int32, v10 = x5 + (1 : Int32) → B10 (x1, x3, x4, v10, σ))

def wpS_X2_addLeave_10 (K : Int32 → Mem → Prop) (B10 : Int32 × Int32 × Int32 × Int32 × Mem → Prop) (x1 x3 x4 x5 : Int32) (σ : Mem) : Prop :=
  ((x3 < x5 → wpJ_X2_addLeave_53 K x1 x4 σ) ∧ (¬ x3 < x5 → (((28 : Int32) ≤ x5 → wpJ_X2_addLeave_53 K x1 x4 σ) ∧ (¬ (28 : Int32) ≤ x5 → wp_X2_isGuard x1 σ (fun r8 σ7 => ((r8 = (0 : Int32) → wpJ_X2_addLeave_47 K B10 x1 x3 x4 x5 σ7) ∧ (¬ r8 = (0 : Int32) → (vp_in ((29 : Int32) + x1) 179 ∧ (vp_in ((29 : Int32) + x1) 179 ∧ (∀ σ11 : Mem, σ11 = (st σ7 2 ((29 : Int32) + x1).toNatClampNeg ((σ7 2 ((29 : Int32) + x1).toNatClampNeg) ||| ((1 : Int32) <<< (x5 &&& 31)))) → wpJ_X2_addLeave_47 K B10 x1 x3 x4 x5 σ11))))))))))

def wpF_X2_addLeave_10 (K : Int32 → Mem → Prop) (B10 : Int32 × Int32 × Int32 × Int32 × Mem → Prop) (s : Int32 × Int32 × Int32 × Int32 × Mem) : Prop := wpS_X2_addLeave_10 K B10 s.1 s.2.1 s.2.2.1 s.2.2.2.1 s.2.2.2.2

def wp_X2_addLeave (x1 x2 x3 : Int32) (σ : Mem) (K : Int32 → Mem → Prop) : Prop :=
  wp_X2_leaveTotal x1 σ (fun r2 σ1 => ∃ n, wlp (wpF_X2_addLeave_10 K) n (x1, x3, r2, x2, σ1))

def wp_X4_problemOfLeave (x1 x2 x3 : Int32) (σ : Mem) (K : Int32 → Mem → Prop) : Prop :=
  wp_X2_isGuard x1 σ (fun r2 σ1 => ((¬ r2 = (0 : Int32) → wp_X2_isSlot x2 σ1 (fun r5 σ4 => ((r5 = (0 : Int32) → K (2 : Int32) σ4) ∧ (¬ r5 = (0 : Int32) → wp_X2_isSlot x3 σ4 (fun r8 σ7 => ((r8 = (0 : Int32) → K (2 : Int32) σ7) ∧ (¬ r8 = (0 : Int32) → ((x2 ≤ x3 → wp_X2_hasPassed x2 σ7 (fun r12 σ11 => ((r12 = (0 : Int32) → wp_X2_firstGateHeld x1 x2 x3 σ11 (fun r15 σ14 => ((r15 = (-1 : Int32) → K (0 : Int32) σ14) ∧ (¬ r15 = (-1 : Int32) → wp_X4_keepRefusal (4 : Int32) r15 σ14 (fun σ17 => K (5 : Int32) σ17))))) ∧ (¬ r12 = (0 : Int32) → K (3 : Int32) σ11)))) ∧ (¬ x2 ≤ x3 → K (2 : Int32) σ7))))))))) ∧ (r2 = (0 : Int32) → K (1 : Int32) σ1)))

def wp_X4_problemOfFood (x1 : Int32) (σ : Mem) (K : Int32 → Mem → Prop) : Prop :=
  ((x1 < (1 : Int32) → K (2 : Int32) σ) ∧ (¬ x1 < (1 : Int32) → ((x1 ≤ (50 : Int32) → wp_X2_rationsLeft σ (fun r4 σ3 => (((r4 + x1) ≤ (99 : Int32) → K (0 : Int32) σ3) ∧ (¬ (r4 + x1) ≤ (99 : Int32) → K (3 : Int32) σ3)))) ∧ (¬ x1 ≤ (50 : Int32) → K (2 : Int32) σ))))

def wp_X4_problemOfPassing (x1 : Int32) (σ : Mem) (K : Int32 → Mem → Prop) : Prop :=
  ((x1 < (1 : Int32) → K (2 : Int32) σ) ∧ (¬ x1 < (1 : Int32) → ((x1 ≤ (28 : Int32) → wp_X2_now σ (fun r4 σ3 => ((x1 ≤ ((28 : Int32) - r4) → K (0 : Int32) σ3) ∧ (¬ x1 ≤ ((28 : Int32) - r4) → K (3 : Int32) σ3)))) ∧ (¬ x1 ≤ (28 : Int32) → K (2 : Int32) σ))))

def wp_X4_problemOfCommand (x1 x2 x3 x4 : Int32) (σ : Mem) (K : Int32 → Mem → Prop) : Prop :=
  ((x1 = (0 : Int32) → wp_X4_problemOfGate x2 σ (fun r2 σ1 => K r2 σ1)) ∧ (x1 = (1 : Int32) → wp_X4_problemOfGuard x2 σ (fun r5 σ4 => K r5 σ4)) ∧ (x1 = (2 : Int32) → wp_X4_problemOfDuty x2 x3 x4 σ (fun r8 σ7 => K r8 σ7)) ∧ (x1 = (3 : Int32) → wp_X4_problemOfFreeing x2 x3 σ (fun r11 σ10 => K r11 σ10)) ∧ (x1 = (4 : Int32) → wp_X4_problemOfLeave x2 x3 x4 σ (fun r14 σ13 => K r14 σ13)) ∧ (x1 = (5 : Int32) → wp_X4_problemOfFilling x2 σ (fun r17 σ16 => K r17 σ16)) ∧ (x1 = (6 : Int32) → wp_X4_problemOfFood x2 σ (fun r20 σ19 => K r20 σ19)) ∧ (x1 = (7 : Int32) → wp_X4_problemOfPassing x2 σ (fun r23 σ22 => K r23 σ22)) ∧ (¬ x1 = (0 : Int32) → ¬ x1 = (1 : Int32) → ¬ x1 = (2 : Int32) → ¬ x1 = (3 : Int32) → ¬ x1 = (4 : Int32) → ¬ x1 = (5 : Int32) → ¬ x1 = (6 : Int32) → ¬ x1 = (7 : Int32) → K (2 : Int32) σ))

def wp_X4_carryOut (x1 x2 x3 x4 : Int32) (σ : Mem) (K : Mem → Prop) : Prop :=
  ((x1 = (0 : Int32) → wp_X2_appendGate x2 σ (fun r2 σ1 => K σ1)) ∧ (x1 = (1 : Int32) → wp_X2_appendGuard x2 σ (fun r5 σ4 => K σ4)) ∧ (x1 = (2 : Int32) → wp_X2_setDuty x2 x3 x4 σ (fun σ7 => K σ7)) ∧ (x1 = (3 : Int32) → wp_X2_setDuty x2 x3 (-1 : Int32) σ (fun σ9 => K σ9)) ∧ (x1 = (4 : Int32) → wp_X2_addLeave x2 x3 x4 σ (fun r12 σ11 => K σ11)) ∧ (x1 = (5 : Int32) → wp_X2_fill x2 σ (fun r15 σ14 => K σ14)) ∧ (x1 = (6 : Int32) → wp_X2_store x2 σ (fun σ17 => K σ17)) ∧ (x1 = (7 : Int32) → wp_X2_letPass x2 σ (fun r20 σ19 => K σ19)) ∧ (¬ x1 = (0 : Int32) → ¬ x1 = (1 : Int32) → ¬ x1 = (2 : Int32) → ¬ x1 = (3 : Int32) → ¬ x1 = (4 : Int32) → ¬ x1 = (5 : Int32) → ¬ x1 = (6 : Int32) → ¬ x1 = (7 : Int32) → K σ))

def wp_X4_runs (x1 : Int32) (σ : Mem) (K : Int32 → Mem → Prop) : Prop :=
  wp_X0_kind x1 σ (fun r2 σ1 => wp_X0_value x1 (0 : Int32) σ1 (fun r4 σ3 => wp_X0_value x1 (1 : Int32) σ3 (fun r6 σ5 => wp_X0_value x1 (2 : Int32) σ5 (fun r8 σ7 => wp_X4_problemOfCommand r2 r4 r6 r8 σ7 (fun r10 σ9 => ((r10 = (0 : Int32) → wp_X4_carryOut r2 r4 r6 r8 σ9 (fun σ12 => K (1 : Int32) σ12)) ∧ (¬ r10 = (0 : Int32) → K (0 : Int32) σ9)))))))

def wp_X4_put (x1 : Int32) (σ : Mem) (K : Mem → Prop) : Prop :=
  (((σ 0 7) < (0 : Int32) → K σ) ∧ (¬ (σ 0 7) < (0 : Int32) → (((28 : Int32) ≤ (σ 0 7) → K σ) ∧ (¬ (28 : Int32) ≤ (σ 0 7) → (vp_in (σ 0 7) 28 ∧ (∀ σ3 : Mem, σ3 = (st σ 24 (σ 0 7).toNatClampNeg (vp_nar .char x1)) → (∀ σ4 : Mem, σ4 = (st σ3 0 7 ((σ3 0 7) + (1 : Int32))) → K σ4)))))))

def wpJ_X4_putNumber_18 (K : Mem → Prop) (x1 : Int32) (σ : Mem) : Prop :=
  wp_X4_put ((((48 : Int32) + (x1 - x1 / (10 : Int32) * (10 : Int32))).toUInt32 % 65536).toInt32) σ (fun σ2 => K σ2)

def wp_X4_putNumber (x1 : Int32) (σ : Mem) (K : Mem → Prop) : Prop :=
  ((x1 < (10 : Int32) → wpJ_X4_putNumber_18 K x1 σ) ∧ (¬ x1 < (10 : Int32) → wp_X4_put ((((48 : Int32) + (x1 / (10 : Int32))).toUInt32 % 65536).toInt32) σ (fun σ3 => wpJ_X4_putNumber_18 K x1 σ3)))

def wp_X4_putNumberOr (x1 x2 : Int32) (σ : Mem) (K : Mem → Prop) : Prop :=
  ((¬ x1 = (-1 : Int32) → wp_X4_putNumber x1 σ (fun σ2 => K σ2)) ∧ (x1 = (-1 : Int32) → wp_X4_put x2 σ (fun σ3 => K σ3)))

def wp_X4_gateCount (σ : Mem) (K : Int32 → Mem → Prop) : Prop :=
  wp_X2_gates σ (fun r2 σ1 => K r2 σ1)

def wp_X4_guardCount (σ : Mem) (K : Int32 → Mem → Prop) : Prop :=
  wp_X2_guards σ (fun r2 σ1 => K r2 σ1)

def wp_X4_dutyCount (σ : Mem) (K : Int32 → Mem → Prop) : Prop :=
  wp_X2_allDuties (0 : Int32) σ (fun r2 σ1 => K r2 σ1)

def wpS_X4_openPlaces_4 (K : Int32 → Mem → Prop) (B4 : Int32 × Int32 × Mem → Prop) (x1 x2 : Int32) (σ : Mem) : Prop :=
  wp_X2_gates σ (fun r2 σ1 => ((r2 ≤ x2 → K x1 σ1) ∧ (¬ r2 ≤ x2 → wp_X2_openSlotsOf x2 σ1 (fun r5 σ4 => (∀ v6 : Int32, v6 = x1 + r5 → (∀ v7 : Int32, v7 = x2 + (1 : Int32) → B4 (v6, v7, σ4)))))))

def wpF_X4_openPlaces_4 (K : Int32 → Mem → Prop) (B4 : Int32 × Int32 × Mem → Prop) (s : Int32 × Int32 × Mem) : Prop := wpS_X4_openPlaces_4 K B4 s.1 s.2.1 s.2.2

def wp_X4_openPlaces (σ : Mem) (K : Int32 → Mem → Prop) : Prop :=
  ∃ n, wlp (wpF_X4_openPlaces_4 K) n ((0 : Int32), (0 : Int32), σ)

def wpS_X4_openPlacesBySlots_10 (K : Int32 → Mem → Prop) (B10 : Int32 × Int32 × Mem → Prop) (x1 x2 : Int32) (σ : Mem) : Prop :=
  (((28 : Int32) ≤ x2 → K x1 σ) ∧ (¬ (28 : Int32) ≤ x2 → wp_X2_openGatesIn x2 σ (fun r5 σ4 => (∀ v6 : Int32, v6 = x1 + r5 → (∀ v7 : Int32, v7 = x2 + (1 : Int32) → B10 (v6, v7, σ4))))))

def wpF_X4_openPlacesBySlots_10 (K : Int32 → Mem → Prop) (B10 : Int32 × Int32 × Mem → Prop) (s : Int32 × Int32 × Mem) : Prop := wpS_X4_openPlacesBySlots_10 K B10 s.1 s.2.1 s.2.2

def wp_X4_openPlacesBySlots (σ : Mem) (K : Int32 → Mem → Prop) : Prop :=
  wp_X2_now σ (fun r2 σ1 => ∃ n, wlp (wpF_X4_openPlacesBySlots_10 K) n ((0 : Int32), r2, σ1))

def wp_X4_rations (σ : Mem) (K : Int32 → Mem → Prop) : Prop :=
  wp_X2_rationsLeft σ (fun r2 σ1 => K r2 σ1)

def wp_X4_currentSlot (σ : Mem) (K : Int32 → Mem → Prop) : Prop :=
  wp_X2_now σ (fun r2 σ1 => K r2 σ1)

def wp_X4_missingRations (σ : Mem) (K : Int32 → Mem → Prop) : Prop :=
  wp_X2_now σ (fun r2 σ1 => wp_X2_allDuties r2 σ1 (fun r4 σ3 => wp_X2_rationsLeft σ3 (fun r6 σ5 => K (if (0 : Int32) < (r4 - r6) then (r4 - r6) else (0 : Int32)) σ5)))

def wp_X4_undoCount (σ : Mem) (K : Int32 → Mem → Prop) : Prop :=
  wp_X1_size σ (fun r2 σ1 => K r2 σ1)

def wp_X4_save (σ : Mem) (K : Int32 → Mem → Prop) : Prop :=
  wp_X2_copyTo_23 σ (fun σ1 => (∀ σ2 : Mem, σ2 = (st σ1 0 5 (1 : Int32)) → wp_X2_guards σ2 (fun r4 σ3 => K r4 σ3)))

def wp_X5_thrown (σ : Mem) (K : Int32 → Mem → Prop) : Prop :=
  K (σ 25 7) σ

def wp_X5_fails (x1 : Int32) (σ : Mem) (K : Int32 → Mem → Prop) : Prop :=
  (∀ σ1 : Mem, σ1 = (st σ 25 7 x1) → ((x1 ≤ (0 : Int32) → K (0 : Int32) σ1) ∧ (¬ x1 ≤ (0 : Int32) → K (1 : Int32) σ1)))

def wp_X5_in (x0 x1 x2 : Int32) (σ : Mem) (K : Int32 → Mem → Prop) : Prop :=
  ((x0 < x1 → K (0 : Int32) σ) ∧ (¬ x0 < x1 → ((x2 < x0 → K (0 : Int32) σ) ∧ (¬ x2 < x0 → K (1 : Int32) σ))))

def wpS_X5_copies_26_27_3 (K : Mem → Prop) (B3 : Int32 × Int32 × Int32 × Mem → Prop) (x1 x3 x4 : Int32) (σ : Mem) : Prop :=
  (((179 : Int32) ≤ x4 → K σ) ∧ (¬ (179 : Int32) ≤ x4 → (vp_in (x1 + x4) 179 ∧ (vp_in (x3 + x4) 1432 ∧ (∀ σ2 : Mem, σ2 = (st σ 27 (x3 + x4).toNatClampNeg (σ 26 (x1 + x4).toNatClampNeg)) → (∀ v3 : Int32, v3 = x4 + (1 : Int32) → B3 (x1, x3, v3, σ2)))))))

def wpF_X5_copies_26_27_3 (K : Mem → Prop) (B3 : Int32 × Int32 × Int32 × Mem → Prop) (s : Int32 × Int32 × Int32 × Mem) : Prop := wpS_X5_copies_26_27_3 K B3 s.1 s.2.1 s.2.2.1 s.2.2.2

def wp_X5_copies_26_27 (x1 x3 : Int32) (σ : Mem) (K : Mem → Prop) : Prop :=
  ∃ n, wlp (wpF_X5_copies_26_27_3 K) n (x1, x3, (0 : Int32), σ)

def wpS_X5_copies_29_27_3 (K : Mem → Prop) (B3 : Int32 × Int32 × Int32 × Mem → Prop) (x1 x3 x4 : Int32) (σ : Mem) : Prop :=
  (((179 : Int32) ≤ x4 → K σ) ∧ (¬ (179 : Int32) ≤ x4 → (vp_in (x1 + x4) 179 ∧ (vp_in (x3 + x4) 1432 ∧ (∀ σ2 : Mem, σ2 = (st σ 27 (x3 + x4).toNatClampNeg (σ 29 (x1 + x4).toNatClampNeg)) → (∀ v3 : Int32, v3 = x4 + (1 : Int32) → B3 (x1, x3, v3, σ2)))))))

def wpF_X5_copies_29_27_3 (K : Mem → Prop) (B3 : Int32 × Int32 × Int32 × Mem → Prop) (s : Int32 × Int32 × Int32 × Mem) : Prop := wpS_X5_copies_29_27_3 K B3 s.1 s.2.1 s.2.2.1 s.2.2.2

def wp_X5_copies_29_27 (x1 x3 : Int32) (σ : Mem) (K : Mem → Prop) : Prop :=
  ∃ n, wlp (wpF_X5_copies_29_27_3 K) n (x1, x3, (0 : Int32), σ)

def wpS_X5_copies_26_28_3 (K : Mem → Prop) (B3 : Int32 × Int32 × Int32 × Mem → Prop) (x1 x3 x4 : Int32) (σ : Mem) : Prop :=
  (((179 : Int32) ≤ x4 → K σ) ∧ (¬ (179 : Int32) ≤ x4 → (vp_in (x1 + x4) 179 ∧ (vp_in (x3 + x4) 179 ∧ (∀ σ2 : Mem, σ2 = (st σ 28 (x3 + x4).toNatClampNeg (σ 26 (x1 + x4).toNatClampNeg)) → (∀ v3 : Int32, v3 = x4 + (1 : Int32) → B3 (x1, x3, v3, σ2)))))))

def wpF_X5_copies_26_28_3 (K : Mem → Prop) (B3 : Int32 × Int32 × Int32 × Mem → Prop) (s : Int32 × Int32 × Int32 × Mem) : Prop := wpS_X5_copies_26_28_3 K B3 s.1 s.2.1 s.2.2.1 s.2.2.2

def wp_X5_copies_26_28 (x1 x3 : Int32) (σ : Mem) (K : Mem → Prop) : Prop :=
  ∃ n, wlp (wpF_X5_copies_26_28_3 K) n (x1, x3, (0 : Int32), σ)

def wpS_X5_copies_28_26_3 (K : Mem → Prop) (B3 : Int32 × Int32 × Int32 × Mem → Prop) (x1 x3 x4 : Int32) (σ : Mem) : Prop :=
  (((179 : Int32) ≤ x4 → K σ) ∧ (¬ (179 : Int32) ≤ x4 → (vp_in (x1 + x4) 179 ∧ (vp_in (x3 + x4) 179 ∧ (∀ σ2 : Mem, σ2 = (st σ 26 (x3 + x4).toNatClampNeg (σ 28 (x1 + x4).toNatClampNeg)) → (∀ v3 : Int32, v3 = x4 + (1 : Int32) → B3 (x1, x3, v3, σ2)))))))

def wpF_X5_copies_28_26_3 (K : Mem → Prop) (B3 : Int32 × Int32 × Int32 × Mem → Prop) (s : Int32 × Int32 × Int32 × Mem) : Prop := wpS_X5_copies_28_26_3 K B3 s.1 s.2.1 s.2.2.1 s.2.2.2

def wp_X5_copies_28_26 (x1 x3 : Int32) (σ : Mem) (K : Mem → Prop) : Prop :=
  ∃ n, wlp (wpF_X5_copies_28_26_3 K) n (x1, x3, (0 : Int32), σ)

def wpS_X5_copies_26_29_3 (K : Mem → Prop) (B3 : Int32 × Int32 × Int32 × Mem → Prop) (x1 x3 x4 : Int32) (σ : Mem) : Prop :=
  (((179 : Int32) ≤ x4 → K σ) ∧ (¬ (179 : Int32) ≤ x4 → (vp_in (x1 + x4) 179 ∧ (vp_in (x3 + x4) 179 ∧ (∀ σ2 : Mem, σ2 = (st σ 29 (x3 + x4).toNatClampNeg (σ 26 (x1 + x4).toNatClampNeg)) → (∀ v3 : Int32, v3 = x4 + (1 : Int32) → B3 (x1, x3, v3, σ2)))))))

def wpF_X5_copies_26_29_3 (K : Mem → Prop) (B3 : Int32 × Int32 × Int32 × Mem → Prop) (s : Int32 × Int32 × Int32 × Mem) : Prop := wpS_X5_copies_26_29_3 K B3 s.1 s.2.1 s.2.2.1 s.2.2.2

def wp_X5_copies_26_29 (x1 x3 : Int32) (σ : Mem) (K : Mem → Prop) : Prop :=
  ∃ n, wlp (wpF_X5_copies_26_29_3 K) n (x1, x3, (0 : Int32), σ)

def wpS_X5_copies_29_26_3 (K : Mem → Prop) (B3 : Int32 × Int32 × Int32 × Mem → Prop) (x1 x3 x4 : Int32) (σ : Mem) : Prop :=
  (((179 : Int32) ≤ x4 → K σ) ∧ (¬ (179 : Int32) ≤ x4 → (vp_in (x1 + x4) 179 ∧ (vp_in (x3 + x4) 179 ∧ (∀ σ2 : Mem, σ2 = (st σ 26 (x3 + x4).toNatClampNeg (σ 29 (x1 + x4).toNatClampNeg)) → (∀ v3 : Int32, v3 = x4 + (1 : Int32) → B3 (x1, x3, v3, σ2)))))))

def wpF_X5_copies_29_26_3 (K : Mem → Prop) (B3 : Int32 × Int32 × Int32 × Mem → Prop) (s : Int32 × Int32 × Int32 × Mem) : Prop := wpS_X5_copies_29_26_3 K B3 s.1 s.2.1 s.2.2.1 s.2.2.2

def wp_X5_copies_29_26 (x1 x3 : Int32) (σ : Mem) (K : Mem → Prop) : Prop :=
  ∃ n, wlp (wpF_X5_copies_29_26_3 K) n (x1, x3, (0 : Int32), σ)

def wpS_X5_copies_27_26_3 (K : Mem → Prop) (B3 : Int32 × Int32 × Int32 × Mem → Prop) (x1 x3 x4 : Int32) (σ : Mem) : Prop :=
  (((179 : Int32) ≤ x4 → K σ) ∧ (¬ (179 : Int32) ≤ x4 → (vp_in (x1 + x4) 1432 ∧ (vp_in (x3 + x4) 179 ∧ (∀ σ2 : Mem, σ2 = (st σ 26 (x3 + x4).toNatClampNeg (σ 27 (x1 + x4).toNatClampNeg)) → (∀ v3 : Int32, v3 = x4 + (1 : Int32) → B3 (x1, x3, v3, σ2)))))))

def wpF_X5_copies_27_26_3 (K : Mem → Prop) (B3 : Int32 × Int32 × Int32 × Mem → Prop) (s : Int32 × Int32 × Int32 × Mem) : Prop := wpS_X5_copies_27_26_3 K B3 s.1 s.2.1 s.2.2.1 s.2.2.2

def wp_X5_copies_27_26 (x1 x3 : Int32) (σ : Mem) (K : Mem → Prop) : Prop :=
  ∃ n, wlp (wpF_X5_copies_27_26_3 K) n (x1, x3, (0 : Int32), σ)

def wpJ_X5_keeps_26_63 (K : Mem → Prop) (σ : Mem) : Prop :=
  wp_X5_copies_26_27 (0 : Int32) ((179 : Int32) * (σ 25 5)) σ (fun σ4 => (∀ σ5 : Mem, σ5 = (st σ4 25 5 ((σ4 25 5) + (1 : Int32))) → K σ5))

def wpJ_X5_keeps_26_53 (K : Mem → Prop) (σ : Mem) : Prop :=
  (∀ σ7 : Mem, σ7 = (st σ 25 5 ((σ 25 5) - (1 : Int32))) → wpJ_X5_keeps_26_63 K σ7)

def wpS_X5_keeps_26_24 (K : Mem → Prop) (B24 : Int32 × Mem → Prop) (x2 : Int32) (σ : Mem) : Prop :=
  (((1253 : Int32) ≤ x2 → wpJ_X5_keeps_26_53 K σ) ∧ (¬ (1253 : Int32) ≤ x2 → (vp_in (x2 + (179 : Int32)) 1432 ∧ (vp_in x2 1432 ∧ (∀ σ8 : Mem, σ8 = (st σ 27 x2.toNatClampNeg (σ 27 (x2 + (179 : Int32)).toNatClampNeg)) → (∀ v9 : Int32, v9 = x2 + (1 : Int32) → B24 (v9, σ8)))))))

def wpF_X5_keeps_26_24 (K : Mem → Prop) (B24 : Int32 × Mem → Prop) (s : Int32 × Mem) : Prop := wpS_X5_keeps_26_24 K B24 s.1 s.2

def wp_X5_keeps_26 (σ : Mem) (K : Mem → Prop) : Prop :=
  (∀ σ1 : Mem, σ1 = (st σ 25 7 (0 : Int32)) → (((σ1 25 6) = (0 : Int32) → ((¬ (σ1 25 5) = (8 : Int32) → wpJ_X5_keeps_26_63 K σ1) ∧ ((σ1 25 5) = (8 : Int32) → ∃ n, wlp (wpF_X5_keeps_26_24 K) n ((0 : Int32), σ1)))) ∧ (¬ (σ1 25 6) = (0 : Int32) → K σ1)))

def wpJ_X5_keeps_29_63 (K : Mem → Prop) (σ : Mem) : Prop :=
  wp_X5_copies_29_27 (0 : Int32) ((179 : Int32) * (σ 25 5)) σ (fun σ4 => (∀ σ5 : Mem, σ5 = (st σ4 25 5 ((σ4 25 5) + (1 : Int32))) → K σ5))

def wpJ_X5_keeps_29_53 (K : Mem → Prop) (σ : Mem) : Prop :=
  (∀ σ7 : Mem, σ7 = (st σ 25 5 ((σ 25 5) - (1 : Int32))) → wpJ_X5_keeps_29_63 K σ7)

def wpS_X5_keeps_29_24 (K : Mem → Prop) (B24 : Int32 × Mem → Prop) (x2 : Int32) (σ : Mem) : Prop :=
  (((1253 : Int32) ≤ x2 → wpJ_X5_keeps_29_53 K σ) ∧ (¬ (1253 : Int32) ≤ x2 → (vp_in (x2 + (179 : Int32)) 1432 ∧ (vp_in x2 1432 ∧ (∀ σ8 : Mem, σ8 = (st σ 27 x2.toNatClampNeg (σ 27 (x2 + (179 : Int32)).toNatClampNeg)) → (∀ v9 : Int32, v9 = x2 + (1 : Int32) → B24 (v9, σ8)))))))

def wpF_X5_keeps_29_24 (K : Mem → Prop) (B24 : Int32 × Mem → Prop) (s : Int32 × Mem) : Prop := wpS_X5_keeps_29_24 K B24 s.1 s.2

def wp_X5_keeps_29 (σ : Mem) (K : Mem → Prop) : Prop :=
  (∀ σ1 : Mem, σ1 = (st σ 25 7 (0 : Int32)) → (((σ1 25 6) = (0 : Int32) → ((¬ (σ1 25 5) = (8 : Int32) → wpJ_X5_keeps_29_63 K σ1) ∧ ((σ1 25 5) = (8 : Int32) → ∃ n, wlp (wpF_X5_keeps_29_24 K) n ((0 : Int32), σ1)))) ∧ (¬ (σ1 25 6) = (0 : Int32) → K σ1)))

def wp_X5_isGate (x1 : Int32) (σ : Mem) (K : Int32 → Mem → Prop) : Prop :=
  wp_X5_in x1 (0 : Int32) ((σ 26 0) - (1 : Int32)) σ (fun r2 σ1 => (narrow .boolean (.int r2) = .int r2 ∧ K r2 σ1))

def wp_X5_isGuard (x1 : Int32) (σ : Mem) (K : Int32 → Mem → Prop) : Prop :=
  wp_X5_in x1 (0 : Int32) ((σ 26 1) - (1 : Int32)) σ (fun r2 σ1 => (narrow .boolean (.int r2) = .int r2 ∧ K r2 σ1))

def wp_X5_isSlot (x0 : Int32) (σ : Mem) (K : Int32 → Mem → Prop) : Prop :=
  wp_X5_in x0 (0 : Int32) (27 : Int32) σ (fun r2 σ1 => (narrow .boolean (.int r2) = .int r2 ∧ K r2 σ1))

def wp_X5_arePlace (x1 x2 : Int32) (σ : Mem) (K : Int32 → Mem → Prop) : Prop :=
  wp_X5_isGate x1 σ (fun r2 σ1 => ((r2 = (0 : Int32) → K (0 : Int32) σ1) ∧ (¬ r2 = (0 : Int32) → wp_X5_isSlot x2 σ1 (fun r5 σ4 => ((r5 = (0 : Int32) → K (0 : Int32) σ4) ∧ (¬ r5 = (0 : Int32) → K (1 : Int32) σ4))))))

def wp_X5_ranked (x1 : Int32) (σ : Mem) (K : Int32 → Mem → Prop) : Prop :=
  (vp_in ((9 : Int32) + ((2 : Int32) * x1)) 179 ∧ K (σ 26 ((9 : Int32) + ((2 : Int32) * x1)).toNatClampNeg) σ)

def wp_X5_who (x1 x2 : Int32) (σ : Mem) (K : Int32 → Mem → Prop) : Prop :=
  (vp_in (((39 : Int32) + ((28 : Int32) * x1)) + x2) 179 ∧ K (σ 26 (((39 : Int32) + ((28 : Int32) * x1)) + x2).toNatClampNeg) σ)

def wp_X5_puts (x1 x2 x3 : Int32) (σ : Mem) (K : Mem → Prop) : Prop :=
  (vp_in (((39 : Int32) + ((28 : Int32) * x1)) + x2) 179 ∧ (∀ σ1 : Mem, σ1 = (st σ 26 (((39 : Int32) + ((28 : Int32) * x1)) + x2).toNatClampNeg x3) → K σ1))

def wpS_X5_where_2 (K : Int32 → Mem → Prop) (B2 : Int32 × Int32 × Int32 × Mem → Prop) (x1 x2 x3 : Int32) (σ : Mem) : Prop :=
  (((σ 26 0) ≤ x3 → K (-1 : Int32) σ) ∧ (¬ (σ 26 0) ≤ x3 → wp_X5_isSlot x2 σ (fun r3 σ2 => ((r3 = (0 : Int32) → K (-1 : Int32) σ2) ∧ (¬ r3 = (0 : Int32) → wp_X5_who x3 x2 σ2 (fun r6 σ5 => ((¬ r6 = x1 → (∀ v8 : Int32, v8 = x3 + (1 : Int32) → B2 (x1, x2, v8, σ5))) ∧ (r6 = x1 → K x3 σ5))))))))

def wpF_X5_where_2 (K : Int32 → Mem → Prop) (B2 : Int32 × Int32 × Int32 × Mem → Prop) (s : Int32 × Int32 × Int32 × Mem) : Prop := wpS_X5_where_2 K B2 s.1 s.2.1 s.2.2.1 s.2.2.2

def wp_X5_where (x1 x2 : Int32) (σ : Mem) (K : Int32 → Mem → Prop) : Prop :=
  ∃ n, wlp (wpF_X5_where_2 K) n (x1, x2, (0 : Int32), σ)

def wp_X5_isOff (x1 x2 : Int32) (σ : Mem) (K : Int32 → Mem → Prop) : Prop :=
  (vp_in ((29 : Int32) + x1) 179 ∧ ((¬ (((σ 26 ((29 : Int32) + x1).toNatClampNeg) >>> (x2 &&& 31)) &&& (1 : Int32)) = (1 : Int32) → K (0 : Int32) σ) ∧ ((((σ 26 ((29 : Int32) + x1).toNatClampNeg) >>> (x2 &&& 31)) &&& (1 : Int32)) = (1 : Int32) → K (1 : Int32) σ)))

def wpJ_X5_addGate_30 (K : Int32 → Mem → Prop) (x1 y1 : Int32) (σ : Mem) : Prop :=
  wp_X5_fails y1 σ (fun r6 σ5 => ((r6 = (0 : Int32) → wp_X5_keeps_26 σ5 (fun σ8 => (vp_in ((4 : Int32) + (σ8 26 0)) 179 ∧ (∀ σ9 : Mem, σ9 = (st σ8 26 ((4 : Int32) + (σ8 26 0)).toNatClampNeg x1) → (∀ σ10 : Mem, σ10 = (st σ9 26 0 ((σ9 26 0) + (1 : Int32))) → K ((σ10 26 0) - (1 : Int32)) σ10))))) ∧ (¬ r6 = (0 : Int32) → K (0 : Int32) σ5)))

def wp_X5_addGate (x1 : Int32) (σ : Mem) (K : Int32 → Mem → Prop) : Prop :=
  wp_X5_in x1 (1 : Int32) (9 : Int32) σ (fun r2 σ1 => ((¬ r2 = (0 : Int32) → ((¬ (σ1 26 0) = (5 : Int32) → wpJ_X5_addGate_30 K x1 (0 : Int32) σ1) ∧ ((σ1 26 0) = (5 : Int32) → wpJ_X5_addGate_30 K x1 (2 : Int32) σ1))) ∧ (r2 = (0 : Int32) → wpJ_X5_addGate_30 K x1 (1 : Int32) σ1)))

def wpJ_X5_addGuard_31 (K : Int32 → Mem → Prop) (x1 y1 : Int32) (σ : Mem) : Prop :=
  wp_X5_fails y1 σ (fun r6 σ5 => ((r6 = (0 : Int32) → wp_X5_keeps_26 σ5 (fun σ8 => (vp_in ((9 : Int32) + ((2 : Int32) * (σ8 26 1))) 179 ∧ (∀ σ9 : Mem, σ9 = (st σ8 26 ((9 : Int32) + ((2 : Int32) * (σ8 26 1))).toNatClampNeg x1) → (∀ σ10 : Mem, σ10 = (st σ9 26 1 ((σ9 26 1) + (1 : Int32))) → K ((σ10 26 1) - (1 : Int32)) σ10))))) ∧ (¬ r6 = (0 : Int32) → K (0 : Int32) σ5)))

def wp_X5_addGuard (x1 : Int32) (σ : Mem) (K : Int32 → Mem → Prop) : Prop :=
  wp_X5_in x1 (1 : Int32) (9 : Int32) σ (fun r2 σ1 => ((¬ r2 = (0 : Int32) → ((¬ (σ1 26 1) = (10 : Int32) → wpJ_X5_addGuard_31 K x1 (0 : Int32) σ1) ∧ ((σ1 26 1) = (10 : Int32) → wpJ_X5_addGuard_31 K x1 (2 : Int32) σ1))) ∧ (r2 = (0 : Int32) → wpJ_X5_addGuard_31 K x1 (1 : Int32) σ1)))

def wp_X5_gateCount (σ : Mem) (K : Int32 → Mem → Prop) : Prop :=
  (∀ σ1 : Mem, σ1 = (st σ 25 7 (0 : Int32)) → K (σ1 26 0) σ1)

def wp_X5_guardCount (σ : Mem) (K : Int32 → Mem → Prop) : Prop :=
  (∀ σ1 : Mem, σ1 = (st σ 25 7 (0 : Int32)) → K (σ1 26 1) σ1)

def wpJ_X5_neededRank_14 (K : Int32 → Mem → Prop) (x1 y1 : Int32) (σ : Mem) : Prop :=
  wp_X5_fails y1 σ (fun r5 σ4 => ((r5 = (0 : Int32) → (vp_in ((4 : Int32) + x1) 179 ∧ K (σ4 26 ((4 : Int32) + x1).toNatClampNeg) σ4)) ∧ (¬ r5 = (0 : Int32) → K (0 : Int32) σ4)))

def wp_X5_neededRank (x1 : Int32) (σ : Mem) (K : Int32 → Mem → Prop) : Prop :=
  wp_X5_isGate x1 σ (fun r2 σ1 => ((r2 = (0 : Int32) → wpJ_X5_neededRank_14 K x1 (1 : Int32) σ1) ∧ (¬ r2 = (0 : Int32) → wpJ_X5_neededRank_14 K x1 (0 : Int32) σ1)))

def wp_X5_isNone (x1 : Int32) (σ : Mem) (K : Int32 → Mem → Prop) : Prop :=
  wp_X5_isGuard x1 σ (fun r2 σ1 => ((r2 = (0 : Int32) → wp_X5_fails (1 : Int32) σ1 (fun r5 σ4 => (narrow .boolean (.int r5) = .int r5 ∧ K r5 σ4))) ∧ (¬ r2 = (0 : Int32) → wp_X5_fails (0 : Int32) σ1 (fun r7 σ6 => (narrow .boolean (.int r7) = .int r7 ∧ K r7 σ6)))))

def wp_X5_rank (x1 : Int32) (σ : Mem) (K : Int32 → Mem → Prop) : Prop :=
  wp_X5_isNone x1 σ (fun r2 σ1 => ((r2 = (0 : Int32) → wp_X5_ranked x1 σ1 (fun r5 σ4 => K r5 σ4)) ∧ (¬ r2 = (0 : Int32) → K (0 : Int32) σ1)))

def wp_X5_faints (x1 : Int32) (σ : Mem) (K : Int32 → Mem → Prop) : Prop :=
  wp_X5_isNone x1 σ (fun r2 σ1 => ((r2 = (0 : Int32) → (vp_in (((9 : Int32) + ((2 : Int32) * x1)) + (1 : Int32)) 179 ∧ K (σ1 26 (((9 : Int32) + ((2 : Int32) * x1)) + (1 : Int32)).toNatClampNeg) σ1)) ∧ (¬ r2 = (0 : Int32) → K (0 : Int32) σ1)))

def wp_X5_refuses (x1 x2 x3 : Int32) (σ : Mem) (K : Int32 → Mem → Prop) : Prop :=
  wp_X5_who x1 x2 σ (fun r2 σ1 => (∀ σ3 : Mem, σ3 = (st σ1 25 16 r2) → (((σ3 25 16) < (0 : Int32) → wp_X5_ranked x3 σ3 (fun r6 σ5 => (∀ σ7 : Mem, σ7 = (st σ5 25 16 r6) → (vp_in ((4 : Int32) + x1) 179 ∧ (((σ7 26 ((4 : Int32) + x1).toNatClampNeg) ≤ (σ7 25 16) → (∀ σ9 : Mem, σ9 = (st σ7 25 16 x2) → wp_X5_isOff x3 x2 σ9 (fun r11 σ10 => ((r11 = (0 : Int32) → wp_X5_where x3 x2 σ10 (fun r14 σ13 => (∀ σ15 : Mem, σ15 = (st σ13 25 16 r14) → (((σ15 25 16) < (0 : Int32) → wp_X5_where x3 (x2 - (1 : Int32)) σ15 (fun r18 σ17 => (∀ σ19 : Mem, σ19 = (st σ17 25 16 r18) → (((σ19 25 16) < (0 : Int32) → wp_X5_where x3 (x2 + (1 : Int32)) σ19 (fun r22 σ21 => (∀ σ23 : Mem, σ23 = (st σ21 25 16 r22) → (((σ23 25 16) < (0 : Int32) → K (0 : Int32) σ23) ∧ (¬ (σ23 25 16) < (0 : Int32) → K (6 : Int32) σ23))))) ∧ (¬ (σ19 25 16) < (0 : Int32) → K (5 : Int32) σ19))))) ∧ (¬ (σ15 25 16) < (0 : Int32) → K (4 : Int32) σ15))))) ∧ (¬ r11 = (0 : Int32) → K (3 : Int32) σ10))))) ∧ (¬ (σ7 26 ((4 : Int32) + x1).toNatClampNeg) ≤ (σ7 25 16) → K (2 : Int32) σ7)))))) ∧ (¬ (σ3 25 16) < (0 : Int32) → K (1 : Int32) σ3))))

def wp_X5_isRefused (x1 x2 x3 x4 : Int32) (σ : Mem) (K : Int32 → Mem → Prop) : Prop :=
  wp_X5_refuses x1 x2 x3 σ (fun r2 σ1 => ((¬ r2 = (0 : Int32) → (∀ σ4 : Mem, σ4 = (st σ1 25 8 r2) → (∀ σ5 : Mem, σ5 = (st σ4 25 9 (σ4 25 16)) → (∀ σ6 : Mem, σ6 = (st σ5 25 7 x4) → K (1 : Int32) σ6)))) ∧ (r2 = (0 : Int32) → K (0 : Int32) σ1)))

def wpJ_X5_duties_36 (K : Int32 → Mem → Prop) (B4 : Int32 × Int32 × Int32 × Mem → Prop) (x1 x3 y0 y1 : Int32) (σ : Mem) : Prop :=
  (∀ v3 : Int32, v3 = y0 + y1 → (∀ v4 : Int32, v4 = x3 + (1 : Int32) → B4 (x1, v3, v4, σ)))

def wpS_X5_duties_4 (K : Int32 → Mem → Prop) (B4 : Int32 × Int32 × Int32 × Mem → Prop) (x1 x2 x3 : Int32) (σ : Mem) : Prop :=
  ((((28 : Int32) * (σ 26 0)) ≤ x3 → K x2 σ) ∧ (¬ ((28 : Int32) * (σ 26 0)) ≤ x3 → (vp_in ((39 : Int32) + x3) 179 ∧ ((¬ (σ 26 ((39 : Int32) + x3).toNatClampNeg) = x1 → wpJ_X5_duties_36 K B4 x1 x3 x2 (0 : Int32) σ) ∧ ((σ 26 ((39 : Int32) + x3).toNatClampNeg) = x1 → wpJ_X5_duties_36 K B4 x1 x3 x2 (1 : Int32) σ)))))

def wpF_X5_duties_4 (K : Int32 → Mem → Prop) (B4 : Int32 × Int32 × Int32 × Mem → Prop) (s : Int32 × Int32 × Int32 × Mem) : Prop := wpS_X5_duties_4 K B4 s.1 s.2.1 s.2.2.1 s.2.2.2

def wp_X5_duties (x1 : Int32) (σ : Mem) (K : Int32 → Mem → Prop) : Prop :=
  ∃ n, wlp (wpF_X5_duties_4 K) n (x1, (0 : Int32), (0 : Int32), σ)

def wpJ_X5_assign_37 (K : Int32 → Mem → Prop) (x1 x2 x3 y1 : Int32) (σ : Mem) : Prop :=
  wp_X5_fails y1 σ (fun r5 σ4 => ((r5 = (0 : Int32) → wp_X5_isRefused x1 x2 x3 (3 : Int32) σ4 (fun r8 σ7 => ((r8 = (0 : Int32) → wp_X5_keeps_26 σ7 (fun σ10 => wp_X5_puts x1 x2 x3 σ10 (fun σ11 => wp_X5_duties x3 σ11 (fun r13 σ12 => K r13 σ12)))) ∧ (¬ r8 = (0 : Int32) → K (0 : Int32) σ7)))) ∧ (¬ r5 = (0 : Int32) → K (0 : Int32) σ4)))

def wpJ_X5_assign_18 (K : Int32 → Mem → Prop) (x1 x2 x3 : Int32) (σ : Mem) : Prop :=
  wpJ_X5_assign_37 K x1 x2 x3 (1 : Int32) σ

def wp_X5_assign (x1 x2 x3 : Int32) (σ : Mem) (K : Int32 → Mem → Prop) : Prop :=
  wp_X5_arePlace x1 x2 σ (fun r2 σ1 => ((r2 = (0 : Int32) → wpJ_X5_assign_18 K x1 x2 x3 σ1) ∧ (¬ r2 = (0 : Int32) → wp_X5_isGuard x3 σ1 (fun r15 σ14 => ((¬ r15 = (0 : Int32) → (((σ14 26 2) ≤ x2 → wpJ_X5_assign_37 K x1 x2 x3 (0 : Int32) σ14) ∧ (¬ (σ14 26 2) ≤ x2 → wpJ_X5_assign_37 K x1 x2 x3 (2 : Int32) σ14))) ∧ (r15 = (0 : Int32) → wpJ_X5_assign_18 K x1 x2 x3 σ14))))))

def wpJ_X5_canAssign_23 (K : Int32 → Mem → Prop) (x1 x2 x3 y1 : Int32) (σ : Mem) : Prop :=
  wp_X5_fails y1 σ (fun r5 σ4 => ((¬ r5 = (0 : Int32) → K (0 : Int32) σ4) ∧ (r5 = (0 : Int32) → ((x2 < (σ4 26 2) → K (0 : Int32) σ4) ∧ (¬ x2 < (σ4 26 2) → wp_X5_refuses x1 x2 x3 σ4 (fun r9 σ8 => ((¬ r9 = (0 : Int32) → K (0 : Int32) σ8) ∧ (r9 = (0 : Int32) → K (1 : Int32) σ8))))))))

def wpJ_X5_canAssign_22 (K : Int32 → Mem → Prop) (x1 x2 x3 : Int32) (σ : Mem) : Prop :=
  wpJ_X5_canAssign_23 K x1 x2 x3 (1 : Int32) σ

def wp_X5_canAssign (x1 x2 x3 : Int32) (σ : Mem) (K : Int32 → Mem → Prop) : Prop :=
  wp_X5_arePlace x1 x2 σ (fun r2 σ1 => ((r2 = (0 : Int32) → wpJ_X5_canAssign_22 K x1 x2 x3 σ1) ∧ (¬ r2 = (0 : Int32) → wp_X5_isGuard x3 σ1 (fun r12 σ11 => ((r12 = (0 : Int32) → wpJ_X5_canAssign_22 K x1 x2 x3 σ11) ∧ (¬ r12 = (0 : Int32) → wpJ_X5_canAssign_23 K x1 x2 x3 (0 : Int32) σ11))))))

def wpJ_X5_remove_42 (K : Int32 → Mem → Prop) (x1 x2 y1 : Int32) (σ : Mem) : Prop :=
  wp_X5_fails y1 σ (fun r9 σ8 => ((r9 = (0 : Int32) → wp_X5_who x1 x2 σ8 (fun r12 σ11 => wp_X5_keeps_26 σ11 (fun σ13 => wp_X5_puts x1 x2 (-1 : Int32) σ13 (fun σ14 => K r12 σ14)))) ∧ (¬ r9 = (0 : Int32) → K (0 : Int32) σ8)))

def wp_X5_remove (x1 x2 : Int32) (σ : Mem) (K : Int32 → Mem → Prop) : Prop :=
  wp_X5_arePlace x1 x2 σ (fun r2 σ1 => ((¬ r2 = (0 : Int32) → (((σ1 26 2) ≤ x2 → wp_X5_who x1 x2 σ1 (fun r6 σ5 => (((0 : Int32) ≤ r6 → wpJ_X5_remove_42 K x1 x2 (0 : Int32) σ5) ∧ (¬ (0 : Int32) ≤ r6 → wpJ_X5_remove_42 K x1 x2 (3 : Int32) σ5)))) ∧ (¬ (σ1 26 2) ≤ x2 → wpJ_X5_remove_42 K x1 x2 (2 : Int32) σ1))) ∧ (r2 = (0 : Int32) → wpJ_X5_remove_42 K x1 x2 (1 : Int32) σ1)))

def wpJ_X5_exchange_165 (K : Int32 → Mem → Prop) (x1 x2 x3 x4 x5 x6 x7 : Int32) (σ : Mem) : Prop :=
  wp_X5_puts x1 x2 x5 σ (fun σ20 => wp_X5_puts x3 x4 x6 σ20 (fun σ21 => ((x7 = (0 : Int32) → wp_X5_keeps_26 σ21 (fun σ23 => wp_X5_puts x1 x2 x6 σ23 (fun σ24 => wp_X5_puts x3 x4 x5 σ24 (fun σ25 => K x6 σ25)))) ∧ (¬ x7 = (0 : Int32) → K (0 : Int32) σ21))))

def wpJ_X5_exchange_106 (K : Int32 → Mem → Prop) (x1 x2 x3 x4 x5 x6 y1 : Int32) (σ : Mem) : Prop :=
  wp_X5_fails y1 σ (fun r13 σ12 => ((r13 = (0 : Int32) → wp_X5_puts x1 x2 (-1 : Int32) σ12 (fun σ15 => wp_X5_puts x3 x4 (-1 : Int32) σ15 (fun σ16 => wp_X5_isRefused x1 x2 x6 (5 : Int32) σ16 (fun r18 σ17 => ((¬ r18 = (0 : Int32) → wpJ_X5_exchange_165 K x1 x2 x3 x4 x5 x6 r18 σ17) ∧ (r18 = (0 : Int32) → wp_X5_puts x1 x2 x6 σ17 (fun σ26 => wp_X5_isRefused x3 x4 x5 (5 : Int32) σ26 (fun r28 σ27 => wpJ_X5_exchange_165 K x1 x2 x3 x4 x5 x6 r28 σ27)))))))) ∧ (¬ r13 = (0 : Int32) → K (0 : Int32) σ12)))

def wpJ_X5_exchange_101 (K : Int32 → Mem → Prop) (x1 x2 x3 x4 x5 x6 : Int32) (σ : Mem) : Prop :=
  wpJ_X5_exchange_106 K x1 x2 x3 x4 x5 x6 (4 : Int32) σ

def wpJ_X5_exchange_65 (K : Int32 → Mem → Prop) (x1 x2 x3 x4 y1 : Int32) (σ : Mem) : Prop :=
  wp_X5_fails y1 σ (fun r5 σ4 => ((r5 = (0 : Int32) → wp_X5_who x1 x2 σ4 (fun r8 σ7 => wp_X5_who x3 x4 σ7 (fun r10 σ9 => ((r8 < (0 : Int32) → wpJ_X5_exchange_101 K x1 x2 x3 x4 r8 r10 σ9) ∧ (¬ r8 < (0 : Int32) → (((0 : Int32) ≤ r10 → wpJ_X5_exchange_106 K x1 x2 x3 x4 r8 r10 (0 : Int32) σ9) ∧ (¬ (0 : Int32) ≤ r10 → wpJ_X5_exchange_101 K x1 x2 x3 x4 r8 r10 σ9))))))) ∧ (¬ r5 = (0 : Int32) → K (0 : Int32) σ4)))

def wpJ_X5_exchange_20 (K : Int32 → Mem → Prop) (x1 x2 x3 x4 : Int32) (σ : Mem) : Prop :=
  wpJ_X5_exchange_65 K x1 x2 x3 x4 (1 : Int32) σ

def wpJ_X5_exchange_60 (K : Int32 → Mem → Prop) (x1 x2 x3 x4 : Int32) (σ : Mem) : Prop :=
  wpJ_X5_exchange_65 K x1 x2 x3 x4 (3 : Int32) σ

def wpJ_X5_exchange_39 (K : Int32 → Mem → Prop) (x1 x2 x3 x4 : Int32) (σ : Mem) : Prop :=
  ((x2 < (σ 26 2) → wpJ_X5_exchange_60 K x1 x2 x3 x4 σ) ∧ (¬ x2 < (σ 26 2) → (((σ 26 2) ≤ x4 → wpJ_X5_exchange_65 K x1 x2 x3 x4 (0 : Int32) σ) ∧ (¬ (σ 26 2) ≤ x4 → wpJ_X5_exchange_60 K x1 x2 x3 x4 σ))))

def wp_X5_exchange (x1 x2 x3 x4 : Int32) (σ : Mem) (K : Int32 → Mem → Prop) : Prop :=
  wp_X5_arePlace x1 x2 σ (fun r2 σ1 => ((r2 = (0 : Int32) → wpJ_X5_exchange_20 K x1 x2 x3 x4 σ1) ∧ (¬ r2 = (0 : Int32) → wp_X5_arePlace x3 x4 σ1 (fun r31 σ30 => ((¬ r31 = (0 : Int32) → ((¬ x1 = x3 → wpJ_X5_exchange_39 K x1 x2 x3 x4 σ30) ∧ (x1 = x3 → ((¬ x2 = x4 → wpJ_X5_exchange_39 K x1 x2 x3 x4 σ30) ∧ (x2 = x4 → wpJ_X5_exchange_65 K x1 x2 x3 x4 (2 : Int32) σ30))))) ∧ (r31 = (0 : Int32) → wpJ_X5_exchange_20 K x1 x2 x3 x4 σ30))))))

def wpJ_X5_nextGate_62 (K : Int32 → Mem → Prop) (B5 : Int32 × Int32 × Int32 × Int32 × Mem → Prop) (x1 x2 x3 x4 : Int32) (σ : Mem) : Prop :=
  (∀ v5 : Int32, v5 = x4 + (1 : Int32) → B5 (x1, x2, x3, v5, σ))

def wpJ_X5_nextGate_59 (K : Int32 → Mem → Prop) (B5 : Int32 × Int32 × Int32 × Int32 × Mem → Prop) (x1 x2 x4 : Int32) (σ : Mem) : Prop :=
  wpJ_X5_nextGate_62 K B5 x1 x2 x4 x4 σ

def wpS_X5_nextGate_5 (K : Int32 → Mem → Prop) (B5 : Int32 × Int32 × Int32 × Int32 × Mem → Prop) (x1 x2 x3 x4 : Int32) (σ : Mem) : Prop :=
  (((σ 26 0) ≤ x4 → K x3 σ) ∧ (¬ (σ 26 0) ≤ x4 → wp_X5_who x4 x1 σ (fun r3 σ2 => (((0 : Int32) ≤ r3 → wpJ_X5_nextGate_62 K B5 x1 x2 x3 x4 σ2) ∧ (¬ (0 : Int32) ≤ r3 → ((¬ ((x2 >>> (x4 &&& 31)) &&& (1 : Int32)) = (0 : Int32) → wpJ_X5_nextGate_62 K B5 x1 x2 x3 x4 σ2) ∧ (((x2 >>> (x4 &&& 31)) &&& (1 : Int32)) = (0 : Int32) → ((x3 < (0 : Int32) → wpJ_X5_nextGate_59 K B5 x1 x2 x4 σ2) ∧ (¬ x3 < (0 : Int32) → (vp_in ((4 : Int32) + x4) 179 ∧ (vp_in ((4 : Int32) + x3) 179 ∧ (((σ2 26 ((4 : Int32) + x4).toNatClampNeg) ≤ (σ2 26 ((4 : Int32) + x3).toNatClampNeg) → wpJ_X5_nextGate_62 K B5 x1 x2 x3 x4 σ2) ∧ (¬ (σ2 26 ((4 : Int32) + x4).toNatClampNeg) ≤ (σ2 26 ((4 : Int32) + x3).toNatClampNeg) → wpJ_X5_nextGate_59 K B5 x1 x2 x4 σ2)))))))))))))

def wpF_X5_nextGate_5 (K : Int32 → Mem → Prop) (B5 : Int32 × Int32 × Int32 × Int32 × Mem → Prop) (s : Int32 × Int32 × Int32 × Int32 × Mem) : Prop := wpS_X5_nextGate_5 K B5 s.1 s.2.1 s.2.2.1 s.2.2.2.1 s.2.2.2.2

def wp_X5_nextGate (x1 x2 : Int32) (σ : Mem) (K : Int32 → Mem → Prop) : Prop :=
  ∃ n, wlp (wpF_X5_nextGate_5 K) n (x1, x2, (-1 : Int32), (0 : Int32), σ)

def wp_X5_isAhead (x1 x2 : Int32) (σ : Mem) (K : Int32 → Mem → Prop) : Prop :=
  wp_X5_duties x1 σ (fun r2 σ1 => wp_X5_duties x2 σ1 (fun r4 σ3 => (∀ v5 : Int32, v5 = r2 - r4 → ((v5 = (0 : Int32) → wp_X5_ranked x1 σ3 (fun r8 σ7 => wp_X5_ranked x2 σ7 (fun r10 σ9 => ((r8 < r10 → K (1 : Int32) σ9) ∧ (¬ r8 < r10 → wp_X5_ranked x1 σ9 (fun r13 σ12 => wp_X5_ranked x2 σ12 (fun r15 σ14 => ((¬ r13 = r15 → K (0 : Int32) σ14) ∧ (r13 = r15 → ((x2 ≤ x1 → K (0 : Int32) σ14) ∧ (¬ x2 ≤ x1 → K (1 : Int32) σ14))))))))))) ∧ (¬ v5 = (0 : Int32) → (((0 : Int32) ≤ v5 → K (0 : Int32) σ3) ∧ (¬ (0 : Int32) ≤ v5 → K (1 : Int32) σ3)))))))

def wpJ_X5_chosen_44 (K : Int32 → Mem → Prop) (B5 : Int32 × Int32 × Int32 × Int32 × Mem → Prop) (x1 x2 x3 x4 : Int32) (σ : Mem) : Prop :=
  (∀ v5 : Int32, v5 = x4 + (1 : Int32) → B5 (x1, x2, x3, v5, σ))

def wpJ_X5_chosen_41 (K : Int32 → Mem → Prop) (B5 : Int32 × Int32 × Int32 × Int32 × Mem → Prop) (x1 x2 x4 : Int32) (σ : Mem) : Prop :=
  wpJ_X5_chosen_44 K B5 x1 x2 x4 x4 σ

def wpS_X5_chosen_5 (K : Int32 → Mem → Prop) (B5 : Int32 × Int32 × Int32 × Int32 × Mem → Prop) (x1 x2 x3 x4 : Int32) (σ : Mem) : Prop :=
  (((σ 26 1) ≤ x4 → K x3 σ) ∧ (¬ (σ 26 1) ≤ x4 → wp_X5_refuses x1 x2 x4 σ (fun r3 σ2 => ((¬ r3 = (0 : Int32) → wpJ_X5_chosen_44 K B5 x1 x2 x3 x4 σ2) ∧ (r3 = (0 : Int32) → ((x3 < (0 : Int32) → wpJ_X5_chosen_41 K B5 x1 x2 x4 σ2) ∧ (¬ x3 < (0 : Int32) → wp_X5_isAhead x4 x3 σ2 (fun r8 σ7 => ((r8 = (0 : Int32) → wpJ_X5_chosen_44 K B5 x1 x2 x3 x4 σ7) ∧ (¬ r8 = (0 : Int32) → wpJ_X5_chosen_41 K B5 x1 x2 x4 σ7))))))))))

def wpF_X5_chosen_5 (K : Int32 → Mem → Prop) (B5 : Int32 × Int32 × Int32 × Int32 × Mem → Prop) (s : Int32 × Int32 × Int32 × Int32 × Mem) : Prop := wpS_X5_chosen_5 K B5 s.1 s.2.1 s.2.2.1 s.2.2.2.1 s.2.2.2.2

def wp_X5_chosen (x1 x2 : Int32) (σ : Mem) (K : Int32 → Mem → Prop) : Prop :=
  ∃ n, wlp (wpF_X5_chosen_5 K) n (x1, x2, (-1 : Int32), (0 : Int32), σ)

def wpJ_X5_fillSlot_86 (K : Int32 → Mem → Prop) (B55 : Int32 × Int32 × Int32 × Int32 × Mem → Prop) (x1 x2 x3 x4 : Int32) (σ : Mem) : Prop :=
  (∀ v15 : Int32, v15 = x2 ||| ((1 : Int32) <<< (x4 &&& 31)) → wp_X5_nextGate x1 v15 σ (fun r17 σ16 => B55 (x1, v15, x3, r17, σ16)))

def wpS_X5_fillSlot_55 (K : Int32 → Mem → Prop) (B55 : Int32 × Int32 × Int32 × Int32 × Mem → Prop) (x1 x2 x3 x4 : Int32) (σ : Mem) : Prop :=
  ((x4 < (0 : Int32) → K x3 σ) ∧ (¬ x4 < (0 : Int32) → wp_X5_chosen x4 x1 σ (fun r13 σ12 => ((r13 < (0 : Int32) → wpJ_X5_fillSlot_86 K B55 x1 x2 x3 x4 σ12) ∧ (¬ r13 < (0 : Int32) → wp_X5_puts x4 x1 r13 σ12 (fun σ18 => (∀ v19 : Int32, v19 = x3 + (1 : Int32) → wpJ_X5_fillSlot_86 K B55 x1 x2 v19 x4 σ18)))))))

def wpF_X5_fillSlot_55 (K : Int32 → Mem → Prop) (B55 : Int32 × Int32 × Int32 × Int32 × Mem → Prop) (s : Int32 × Int32 × Int32 × Int32 × Mem) : Prop := wpS_X5_fillSlot_55 K B55 s.1 s.2.1 s.2.2.1 s.2.2.2.1 s.2.2.2.2

def wpJ_X5_fillSlot_27 (K : Int32 → Mem → Prop) (x1 y1 : Int32) (σ : Mem) : Prop :=
  wp_X5_fails y1 σ (fun r6 σ5 => ((r6 = (0 : Int32) → wp_X5_keeps_26 σ5 (fun σ8 => wp_X5_nextGate x1 (0 : Int32) σ8 (fun r10 σ9 => ∃ n, wlp (wpF_X5_fillSlot_55 K) n (x1, (0 : Int32), (0 : Int32), r10, σ9)))) ∧ (¬ r6 = (0 : Int32) → K (0 : Int32) σ5)))

def wp_X5_fillSlot (x1 : Int32) (σ : Mem) (K : Int32 → Mem → Prop) : Prop :=
  wp_X5_isSlot x1 σ (fun r2 σ1 => ((¬ r2 = (0 : Int32) → (((σ1 26 2) ≤ x1 → wpJ_X5_fillSlot_27 K x1 (0 : Int32) σ1) ∧ (¬ (σ1 26 2) ≤ x1 → wpJ_X5_fillSlot_27 K x1 (2 : Int32) σ1))) ∧ (r2 = (0 : Int32) → wpJ_X5_fillSlot_27 K x1 (1 : Int32) σ1)))

def wpJ_X5_guardAt_28 (K : Int32 → Mem → Prop) (x1 x2 y1 : Int32) (σ : Mem) : Prop :=
  wp_X5_fails y1 σ (fun r8 σ7 => ((r8 = (0 : Int32) → wp_X5_who x1 x2 σ7 (fun r11 σ10 => K r11 σ10)) ∧ (¬ r8 = (0 : Int32) → K (0 : Int32) σ7)))

def wp_X5_guardAt (x1 x2 : Int32) (σ : Mem) (K : Int32 → Mem → Prop) : Prop :=
  wp_X5_arePlace x1 x2 σ (fun r2 σ1 => ((¬ r2 = (0 : Int32) → wp_X5_who x1 x2 σ1 (fun r5 σ4 => (((0 : Int32) ≤ r5 → wpJ_X5_guardAt_28 K x1 x2 (0 : Int32) σ4) ∧ (¬ (0 : Int32) ≤ r5 → wpJ_X5_guardAt_28 K x1 x2 (2 : Int32) σ4)))) ∧ (r2 = (0 : Int32) → wpJ_X5_guardAt_28 K x1 x2 (1 : Int32) σ1)))

def wpJ_X5_gateOf_34 (K : Int32 → Mem → Prop) (x1 x2 y1 : Int32) (σ : Mem) : Prop :=
  wp_X5_fails y1 σ (fun r5 σ4 => ((r5 = (0 : Int32) → wp_X5_where x1 x2 σ4 (fun r8 σ7 => K r8 σ7)) ∧ (¬ r5 = (0 : Int32) → K (0 : Int32) σ4)))

def wpJ_X5_gateOf_16 (K : Int32 → Mem → Prop) (x1 x2 : Int32) (σ : Mem) : Prop :=
  wpJ_X5_gateOf_34 K x1 x2 (1 : Int32) σ

def wp_X5_gateOf (x1 x2 : Int32) (σ : Mem) (K : Int32 → Mem → Prop) : Prop :=
  wp_X5_isGuard x1 σ (fun r2 σ1 => ((r2 = (0 : Int32) → wpJ_X5_gateOf_16 K x1 x2 σ1) ∧ (¬ r2 = (0 : Int32) → wp_X5_isSlot x2 σ1 (fun r10 σ9 => ((¬ r10 = (0 : Int32) → wp_X5_where x1 x2 σ9 (fun r13 σ12 => (((0 : Int32) ≤ r13 → wpJ_X5_gateOf_34 K x1 x2 (0 : Int32) σ12) ∧ (¬ (0 : Int32) ≤ r13 → wpJ_X5_gateOf_34 K x1 x2 (2 : Int32) σ12)))) ∧ (r10 = (0 : Int32) → wpJ_X5_gateOf_16 K x1 x2 σ9))))))

def wp_X5_dutiesOf (x1 : Int32) (σ : Mem) (K : Int32 → Mem → Prop) : Prop :=
  wp_X5_isNone x1 σ (fun r2 σ1 => ((r2 = (0 : Int32) → wp_X5_duties x1 σ1 (fun r5 σ4 => K r5 σ4)) ∧ (¬ r2 = (0 : Int32) → K (0 : Int32) σ1)))

def wpJ_X5_allDuties_35 (K : Int32 → Mem → Prop) (B4 : Int32 × Int32 × Mem → Prop) (x2 y0 y1 : Int32) (σ : Mem) : Prop :=
  (∀ v3 : Int32, v3 = y0 + y1 → (∀ v4 : Int32, v4 = x2 + (1 : Int32) → B4 (v3, v4, σ)))

def wpS_X5_allDuties_4 (K : Int32 → Mem → Prop) (B4 : Int32 × Int32 × Mem → Prop) (x1 x2 : Int32) (σ : Mem) : Prop :=
  ((((28 : Int32) * (σ 26 0)) ≤ x2 → K x1 σ) ∧ (¬ ((28 : Int32) * (σ 26 0)) ≤ x2 → (vp_in ((39 : Int32) + x2) 179 ∧ (((σ 26 ((39 : Int32) + x2).toNatClampNeg) < (0 : Int32) → wpJ_X5_allDuties_35 K B4 x2 x1 (0 : Int32) σ) ∧ (¬ (σ 26 ((39 : Int32) + x2).toNatClampNeg) < (0 : Int32) → wpJ_X5_allDuties_35 K B4 x2 x1 (1 : Int32) σ)))))

def wpF_X5_allDuties_4 (K : Int32 → Mem → Prop) (B4 : Int32 × Int32 × Mem → Prop) (s : Int32 × Int32 × Mem) : Prop := wpS_X5_allDuties_4 K B4 s.1 s.2.1 s.2.2

def wp_X5_allDuties (σ : Mem) (K : Int32 → Mem → Prop) : Prop :=
  ∃ n, wlp (wpF_X5_allDuties_4 K) n ((0 : Int32), (0 : Int32), σ)

def wp_X5_dutyCount (σ : Mem) (K : Int32 → Mem → Prop) : Prop :=
  (∀ σ1 : Mem, σ1 = (st σ 25 7 (0 : Int32)) → wp_X5_allDuties σ1 (fun r3 σ2 => K r3 σ2))

def wpJ_X5_open_29 (K : Int32 → Mem → Prop) (B4 : Int32 × Int32 × Int32 × Mem → Prop) (x1 x3 y0 y1 : Int32) (σ : Mem) : Prop :=
  (∀ v5 : Int32, v5 = y0 + y1 → (∀ v6 : Int32, v6 = x3 + (1 : Int32) → B4 (x1, v5, v6, σ)))

def wpS_X5_open_4 (K : Int32 → Mem → Prop) (B4 : Int32 × Int32 × Int32 × Mem → Prop) (x1 x2 x3 : Int32) (σ : Mem) : Prop :=
  (((σ 26 0) ≤ x3 → K x2 σ) ∧ (¬ (σ 26 0) ≤ x3 → wp_X5_who x3 x1 σ (fun r3 σ2 => (((0 : Int32) ≤ r3 → wpJ_X5_open_29 K B4 x1 x3 x2 (0 : Int32) σ2) ∧ (¬ (0 : Int32) ≤ r3 → wpJ_X5_open_29 K B4 x1 x3 x2 (1 : Int32) σ2)))))

def wpF_X5_open_4 (K : Int32 → Mem → Prop) (B4 : Int32 × Int32 × Int32 × Mem → Prop) (s : Int32 × Int32 × Int32 × Mem) : Prop := wpS_X5_open_4 K B4 s.1 s.2.1 s.2.2.1 s.2.2.2

def wp_X5_open (x1 : Int32) (σ : Mem) (K : Int32 → Mem → Prop) : Prop :=
  ∃ n, wlp (wpF_X5_open_4 K) n (x1, (0 : Int32), (0 : Int32), σ)

def wpJ_X5_openGates_13 (K : Int32 → Mem → Prop) (x1 y1 : Int32) (σ : Mem) : Prop :=
  wp_X5_fails y1 σ (fun r5 σ4 => ((r5 = (0 : Int32) → wp_X5_open x1 σ4 (fun r8 σ7 => K r8 σ7)) ∧ (¬ r5 = (0 : Int32) → K (0 : Int32) σ4)))

def wp_X5_openGates (x1 : Int32) (σ : Mem) (K : Int32 → Mem → Prop) : Prop :=
  wp_X5_isSlot x1 σ (fun r2 σ1 => ((r2 = (0 : Int32) → wpJ_X5_openGates_13 K x1 (1 : Int32) σ1) ∧ (¬ r2 = (0 : Int32) → wpJ_X5_openGates_13 K x1 (0 : Int32) σ1)))

def wpS_X5_openFromNow_14 (K : Int32 → Mem → Prop) (B14 : Int32 × Int32 × Mem → Prop) (x1 x2 : Int32) (σ : Mem) : Prop :=
  (((28 : Int32) ≤ x2 → K x1 σ) ∧ (¬ (28 : Int32) ≤ x2 → wp_X5_open x2 σ (fun r5 σ4 => (∀ v6 : Int32, v6 = x1 + r5 → (∀ v7 : Int32, v7 = x2 + (1 : Int32) → B14 (v6, v7, σ4))))))

def wpF_X5_openFromNow_14 (K : Int32 → Mem → Prop) (B14 : Int32 × Int32 × Mem → Prop) (s : Int32 × Int32 × Mem) : Prop := wpS_X5_openFromNow_14 K B14 s.1 s.2.1 s.2.2

def wp_X5_openFromNow (σ : Mem) (K : Int32 → Mem → Prop) : Prop :=
  (∀ σ1 : Mem, σ1 = (st σ 25 7 (0 : Int32)) → (∀ v2 : Int32, v2 = σ1 26 2 → ∃ n, wlp (wpF_X5_openFromNow_14 K) n ((0 : Int32), v2, σ1)))

def wp_X5_openPlaces (σ : Mem) (K : Int32 → Mem → Prop) : Prop :=
  wp_X5_openFromNow σ (fun r2 σ1 => K r2 σ1)

def wp_X5_openPlacesBySlots (σ : Mem) (K : Int32 → Mem → Prop) : Prop :=
  wp_X5_openFromNow σ (fun r2 σ1 => K r2 σ1)

def wpJ_X5_most_195 (K : Int32 → Mem → Prop) (B172 : Int32 × Int32 × Mem → Prop) (x2 x3 : Int32) (σ : Mem) : Prop :=
  (∀ v11 : Int32, v11 = x3 + (1 : Int32) → B172 (x2, v11, σ))

def wpS_X5_most_172 (K : Int32 → Mem → Prop) (B172 : Int32 × Int32 × Mem → Prop) (x2 x3 : Int32) (σ : Mem) : Prop :=
  (((32 : Int32) ≤ x3 → K x2 σ) ∧ (¬ (32 : Int32) ≤ x3 → (vp_in x3 32 ∧ (((σ 32 x3.toNatClampNeg) ≤ x2 → wpJ_X5_most_195 K B172 x2 x3 σ) ∧ (¬ (σ 32 x3.toNatClampNeg) ≤ x2 → (vp_in x3 32 ∧ (∀ v12 : Int32, v12 = σ 32 x3.toNatClampNeg → wpJ_X5_most_195 K B172 v12 x3 σ)))))))

def wpF_X5_most_172 (K : Int32 → Mem → Prop) (B172 : Int32 × Int32 × Mem → Prop) (s : Int32 × Int32 × Mem) : Prop := wpS_X5_most_172 K B172 s.1 s.2.1 s.2.2

def wpJ_X5_most_168 (K : Int32 → Mem → Prop) (σ : Mem) : Prop :=
  ∃ n, wlp (wpF_X5_most_172 K) n ((0 : Int32), (0 : Int32), σ)

def wpJ_X5_most_162 (K : Int32 → Mem → Prop) (B52 : Int32 × Int32 × Mem → Prop) (x1 x2 : Int32) (σ : Mem) : Prop :=
  (∀ v14 : Int32, v14 = x2 + (1 : Int32) → B52 (x1, v14, σ))

def wpJ_X5_most_156 (K : Int32 → Mem → Prop) (B52 : Int32 × Int32 × Mem → Prop) (B65 : Int32 × Int32 × Int32 × Mem → Prop) (x1 x2 x3 : Int32) (σ : Mem) : Prop :=
  (∀ v16 : Int32, v16 = x3 + (-1 : Int32) → B65 (x1, x2, v16, σ))

def wpJ_X5_most_150 (K : Int32 → Mem → Prop) (B52 : Int32 × Int32 × Mem → Prop) (B65 : Int32 × Int32 × Int32 × Mem → Prop) (B72 : Int32 × Int32 × Int32 × Int32 × Mem → Prop) (x1 x2 x3 x4 : Int32) (σ : Mem) : Prop :=
  (∀ v19 : Int32, v19 = x4 + (1 : Int32) → B72 (x1, x2, x3, v19, σ))

def wpS_X5_most_72 (K : Int32 → Mem → Prop) (B52 : Int32 × Int32 × Mem → Prop) (B65 : Int32 × Int32 × Int32 × Mem → Prop) (B72 : Int32 × Int32 × Int32 × Int32 × Mem → Prop) (x1 x2 x3 x4 : Int32) (σ : Mem) : Prop :=
  (((σ 26 0) ≤ x4 → wpJ_X5_most_156 K B52 B65 x1 x2 x3 σ) ∧ (¬ (σ 26 0) ≤ x4 → (∀ v17 : Int32, v17 = x3 ||| ((1 : Int32) <<< (x4 &&& 31)) → ((v17 = x3 → wpJ_X5_most_150 K B52 B65 B72 x1 x2 x3 x4 σ) ∧ (¬ v17 = x3 → (vp_in x3 32 ∧ (((σ 32 x3.toNatClampNeg) < (0 : Int32) → wpJ_X5_most_150 K B52 B65 B72 x1 x2 x3 x4 σ) ∧ (¬ (σ 32 x3.toNatClampNeg) < (0 : Int32) → wp_X5_refuses x4 x1 x2 σ (fun r22 σ21 => ((¬ r22 = (0 : Int32) → wpJ_X5_most_150 K B52 B65 B72 x1 x2 x3 x4 σ21) ∧ (r22 = (0 : Int32) → (vp_in x3 32 ∧ (vp_in v17 32 ∧ ((((σ21 32 x3.toNatClampNeg) + (1 : Int32)) ≤ (σ21 32 v17.toNatClampNeg) → wpJ_X5_most_150 K B52 B65 B72 x1 x2 x3 x4 σ21) ∧ (¬ ((σ21 32 x3.toNatClampNeg) + (1 : Int32)) ≤ (σ21 32 v17.toNatClampNeg) → (vp_in x3 32 ∧ (vp_in v17 32 ∧ (∀ σ25 : Mem, σ25 = (st σ21 32 v17.toNatClampNeg ((σ21 32 x3.toNatClampNeg) + (1 : Int32))) → wpJ_X5_most_150 K B52 B65 B72 x1 x2 x3 x4 σ25))))))))))))))))))

def wpF_X5_most_72 (K : Int32 → Mem → Prop) (B52 : Int32 × Int32 × Mem → Prop) (B65 : Int32 × Int32 × Int32 × Mem → Prop) (B72 : Int32 × Int32 × Int32 × Int32 × Mem → Prop) (s : Int32 × Int32 × Int32 × Int32 × Mem) : Prop := wpS_X5_most_72 K B52 B65 B72 s.1 s.2.1 s.2.2.1 s.2.2.2.1 s.2.2.2.2

def wpS_X5_most_65 (K : Int32 → Mem → Prop) (B52 : Int32 × Int32 × Mem → Prop) (B65 : Int32 × Int32 × Int32 × Mem → Prop) (x1 x2 x3 : Int32) (σ : Mem) : Prop :=
  ((x3 < (0 : Int32) → wpJ_X5_most_162 K B52 x1 x2 σ) ∧ (¬ x3 < (0 : Int32) → ∃ n, wlp (wpF_X5_most_72 K B52 B65) n (x1, x2, x3, (0 : Int32), σ)))

def wpF_X5_most_65 (K : Int32 → Mem → Prop) (B52 : Int32 × Int32 × Mem → Prop) (B65 : Int32 × Int32 × Int32 × Mem → Prop) (s : Int32 × Int32 × Int32 × Mem) : Prop := wpS_X5_most_65 K B52 B65 s.1 s.2.1 s.2.2.1 s.2.2.2

def wpS_X5_most_52 (K : Int32 → Mem → Prop) (B52 : Int32 × Int32 × Mem → Prop) (x1 x2 : Int32) (σ : Mem) : Prop :=
  (((σ 26 1) ≤ x2 → wpJ_X5_most_168 K σ) ∧ (¬ (σ 26 1) ≤ x2 → ∃ n, wlp (wpF_X5_most_65 K B52) n (x1, x2, (31 : Int32), σ)))

def wpF_X5_most_52 (K : Int32 → Mem → Prop) (B52 : Int32 × Int32 × Mem → Prop) (s : Int32 × Int32 × Mem) : Prop := wpS_X5_most_52 K B52 s.1 s.2.1 s.2.2

def wpJ_X5_most_50 (K : Int32 → Mem → Prop) (x1 : Int32) (σ : Mem) : Prop :=
  ∃ n, wlp (wpF_X5_most_52 K) n (x1, (0 : Int32), σ)

def wpJ_X5_most_43 (K : Int32 → Mem → Prop) (B23 : Int32 × Int32 × Mem → Prop) (x1 x2 y1 y2 : Int32) (σ : Mem) : Prop :=
  (vp_in y1 32 ∧ (∀ σ27 : Mem, σ27 = (st σ 32 y1.toNatClampNeg y2) → (∀ v28 : Int32, v28 = x2 + (1 : Int32) → B23 (x1, v28, σ27))))

def wpS_X5_most_23 (K : Int32 → Mem → Prop) (B23 : Int32 × Int32 × Mem → Prop) (x1 x2 : Int32) (σ : Mem) : Prop :=
  (((32 : Int32) ≤ x2 → wpJ_X5_most_50 K x1 σ) ∧ (¬ (32 : Int32) ≤ x2 → ((¬ x2 = (0 : Int32) → wpJ_X5_most_43 K B23 x1 x2 x2 (-1 : Int32) σ) ∧ (x2 = (0 : Int32) → wpJ_X5_most_43 K B23 x1 x2 x2 (0 : Int32) σ))))

def wpF_X5_most_23 (K : Int32 → Mem → Prop) (B23 : Int32 × Int32 × Mem → Prop) (s : Int32 × Int32 × Mem) : Prop := wpS_X5_most_23 K B23 s.1 s.2.1 s.2.2

def wpJ_X5_most_13 (K : Int32 → Mem → Prop) (x1 y1 : Int32) (σ : Mem) : Prop :=
  wp_X5_fails y1 σ (fun r5 σ4 => ((r5 = (0 : Int32) → ∃ n, wlp (wpF_X5_most_23 K) n (x1, (0 : Int32), σ4)) ∧ (¬ r5 = (0 : Int32) → K (0 : Int32) σ4)))

def wp_X5_most (x1 : Int32) (σ : Mem) (K : Int32 → Mem → Prop) : Prop :=
  wp_X5_isSlot x1 σ (fun r2 σ1 => ((r2 = (0 : Int32) → wpJ_X5_most_13 K x1 (1 : Int32) σ1) ∧ (¬ r2 = (0 : Int32) → wpJ_X5_most_13 K x1 (0 : Int32) σ1)))

def wp_X5_mostDuties (x1 : Int32) (σ : Mem) (K : Int32 → Mem → Prop) : Prop :=
  wp_X5_most x1 σ (fun r2 σ1 => K r2 σ1)

def wp_X5_mostDutiesBySets (x1 : Int32) (σ : Mem) (K : Int32 → Mem → Prop) : Prop :=
  wp_X5_most x1 σ (fun r2 σ1 => K r2 σ1)

def wpS_X5_following_7 (K : Int32 → Mem → Prop) (B7 : Int32 × Int32 × Mem → Prop) (x1 x2 : Int32) (σ : Mem) : Prop :=
  (((28 : Int32) ≤ x2 → K (-1 : Int32) σ) ∧ (¬ (28 : Int32) ≤ x2 → wp_X5_where x1 x2 σ (fun r4 σ3 => ((r4 < (0 : Int32) → (∀ v6 : Int32, v6 = x2 + (1 : Int32) → B7 (x1, v6, σ3))) ∧ (¬ r4 < (0 : Int32) → K x2 σ3)))))

def wpF_X5_following_7 (K : Int32 → Mem → Prop) (B7 : Int32 × Int32 × Mem → Prop) (s : Int32 × Int32 × Mem) : Prop := wpS_X5_following_7 K B7 s.1 s.2.1 s.2.2

def wp_X5_following (x1 : Int32) (σ : Mem) (K : Int32 → Mem → Prop) : Prop :=
  (∀ v1 : Int32, v1 = σ 26 2 → ∃ n, wlp (wpF_X5_following_7 K) n (x1, v1, σ))

def wpJ_X5_nextDuty_26 (K : Int32 → Mem → Prop) (x1 y1 : Int32) (σ : Mem) : Prop :=
  wp_X5_fails y1 σ (fun r8 σ7 => ((r8 = (0 : Int32) → wp_X5_following x1 σ7 (fun r11 σ10 => K r11 σ10)) ∧ (¬ r8 = (0 : Int32) → K (0 : Int32) σ7)))

def wp_X5_nextDuty (x1 : Int32) (σ : Mem) (K : Int32 → Mem → Prop) : Prop :=
  wp_X5_isGuard x1 σ (fun r2 σ1 => ((¬ r2 = (0 : Int32) → wp_X5_following x1 σ1 (fun r5 σ4 => (((0 : Int32) ≤ r5 → wpJ_X5_nextDuty_26 K x1 (0 : Int32) σ4) ∧ (¬ (0 : Int32) ≤ r5 → wpJ_X5_nextDuty_26 K x1 (2 : Int32) σ4)))) ∧ (r2 = (0 : Int32) → wpJ_X5_nextDuty_26 K x1 (1 : Int32) σ1)))

def wpJ_X5_longestRest_49 (K : Int32 → Mem → Prop) (B17 : Int32 × Int32 × Int32 × Int32 × Mem → Prop) (x1 x2 x3 x4 : Int32) (σ : Mem) : Prop :=
  (∀ v9 : Int32, v9 = x4 + (1 : Int32) → B17 (x1, x2, x3, v9, σ))

def wpJ_X5_longestRest_41 (K : Int32 → Mem → Prop) (B17 : Int32 × Int32 × Int32 × Int32 × Mem → Prop) (x1 x2 x4 y0 : Int32) (σ : Mem) : Prop :=
  ((y0 ≤ x2 → wpJ_X5_longestRest_49 K B17 x1 x2 y0 x4 σ) ∧ (¬ y0 ≤ x2 → wpJ_X5_longestRest_49 K B17 x1 y0 y0 x4 σ))

def wpS_X5_longestRest_17 (K : Int32 → Mem → Prop) (B17 : Int32 × Int32 × Int32 × Int32 × Mem → Prop) (x1 x2 x3 x4 : Int32) (σ : Mem) : Prop :=
  (((28 : Int32) ≤ x4 → K x2 σ) ∧ (¬ (28 : Int32) ≤ x4 → wp_X5_where x1 x4 σ (fun r6 σ5 => (((0 : Int32) ≤ r6 → wpJ_X5_longestRest_41 K B17 x1 x2 x4 (0 : Int32) σ5) ∧ (¬ (0 : Int32) ≤ r6 → wpJ_X5_longestRest_41 K B17 x1 x2 x4 (x3 + (1 : Int32)) σ5)))))

def wpF_X5_longestRest_17 (K : Int32 → Mem → Prop) (B17 : Int32 × Int32 × Int32 × Int32 × Mem → Prop) (s : Int32 × Int32 × Int32 × Int32 × Mem) : Prop := wpS_X5_longestRest_17 K B17 s.1 s.2.1 s.2.2.1 s.2.2.2.1 s.2.2.2.2

def wp_X5_longestRest (x1 : Int32) (σ : Mem) (K : Int32 → Mem → Prop) : Prop :=
  wp_X5_isNone x1 σ (fun r2 σ1 => ((r2 = (0 : Int32) → ∃ n, wlp (wpF_X5_longestRest_17 K) n (x1, (0 : Int32), (0 : Int32), (0 : Int32), σ1)) ∧ (¬ r2 = (0 : Int32) → K (0 : Int32) σ1)))

def wpJ_X5_guardByDuties_73 (K : Int32 → Mem → Prop) (σ : Mem) : Prop :=
  (∀ σ2 : Mem, σ2 = (st σ 25 7 (1 : Int32)) → K (0 : Int32) σ2)

def wpJ_X5_guardByDuties_60 (K : Int32 → Mem → Prop) (x2 : Int32) (σ : Mem) : Prop :=
  (∀ σ5 : Mem, σ5 = (st σ 25 7 (0 : Int32)) → K x2 σ5)

def wpJ_X5_guardByDuties_52 (K : Int32 → Mem → Prop) (B2 : Int32 × Int32 × Mem → Prop) (x1 x2 x3 : Int32) (σ : Mem) : Prop :=
  ((x3 = x1 → wpJ_X5_guardByDuties_60 K x2 σ) ∧ (¬ x3 = x1 → (∀ v6 : Int32, v6 = x2 + (1 : Int32) → B2 (x1, v6, σ))))

def wpJ_X5_guardByDuties_44 (K : Int32 → Mem → Prop) (B2 : Int32 × Int32 × Mem → Prop) (B17 : Int32 × Int32 × Int32 × Int32 × Mem → Prop) (x1 x2 x4 y0 y1 : Int32) (σ : Mem) : Prop :=
  (∀ v10 : Int32, v10 = y0 + y1 → (∀ v11 : Int32, v11 = x4 + (1 : Int32) → B17 (x1, x2, v10, v11, σ)))

def wpS_X5_guardByDuties_17 (K : Int32 → Mem → Prop) (B2 : Int32 × Int32 × Mem → Prop) (B17 : Int32 × Int32 × Int32 × Int32 × Mem → Prop) (x1 x2 x3 x4 : Int32) (σ : Mem) : Prop :=
  (((σ 26 1) ≤ x4 → wpJ_X5_guardByDuties_52 K B2 x1 x2 x3 σ) ∧ (¬ (σ 26 1) ≤ x4 → wp_X5_isAhead x4 x2 σ (fun r8 σ7 => ((r8 = (0 : Int32) → wpJ_X5_guardByDuties_44 K B2 B17 x1 x2 x4 x3 (0 : Int32) σ7) ∧ (¬ r8 = (0 : Int32) → wpJ_X5_guardByDuties_44 K B2 B17 x1 x2 x4 x3 (1 : Int32) σ7)))))

def wpF_X5_guardByDuties_17 (K : Int32 → Mem → Prop) (B2 : Int32 × Int32 × Mem → Prop) (B17 : Int32 × Int32 × Int32 × Int32 × Mem → Prop) (s : Int32 × Int32 × Int32 × Int32 × Mem) : Prop := wpS_X5_guardByDuties_17 K B2 B17 s.1 s.2.1 s.2.2.1 s.2.2.2.1 s.2.2.2.2

def wpS_X5_guardByDuties_2 (K : Int32 → Mem → Prop) (B2 : Int32 × Int32 × Mem → Prop) (x1 x2 : Int32) (σ : Mem) : Prop :=
  (((σ 26 1) ≤ x2 → wpJ_X5_guardByDuties_73 K σ) ∧ (¬ (σ 26 1) ≤ x2 → ∃ n, wlp (wpF_X5_guardByDuties_17 K B2) n (x1, x2, (0 : Int32), (0 : Int32), σ)))

def wpF_X5_guardByDuties_2 (K : Int32 → Mem → Prop) (B2 : Int32 × Int32 × Mem → Prop) (s : Int32 × Int32 × Mem) : Prop := wpS_X5_guardByDuties_2 K B2 s.1 s.2.1 s.2.2

def wp_X5_guardByDuties (x1 : Int32) (σ : Mem) (K : Int32 → Mem → Prop) : Prop :=
  ∃ n, wlp (wpF_X5_guardByDuties_2 K) n (x1, (0 : Int32), σ)

def wpS_X5_bits_4 (K : Int32 → Mem → Prop) (B4 : Int32 × Int32 × Int32 × Mem → Prop) (x0 x1 x2 : Int32) (σ : Mem) : Prop :=
  (((28 : Int32) ≤ x2 → K x1 σ) ∧ (¬ (28 : Int32) ≤ x2 → (∀ v2 : Int32, v2 = x1 + ((x0 >>> (x2 &&& 31)) &&& (1 : Int32)) → (∀ v3 : Int32, v3 = x2 + (1 : Int32) → B4 (x0, v2, v3, σ)))))

def wpF_X5_bits_4 (K : Int32 → Mem → Prop) (B4 : Int32 × Int32 × Int32 × Mem → Prop) (s : Int32 × Int32 × Int32 × Mem) : Prop := wpS_X5_bits_4 K B4 s.1 s.2.1 s.2.2.1 s.2.2.2

def wp_X5_bits (x0 : Int32) (σ : Mem) (K : Int32 → Mem → Prop) : Prop :=
  ∃ n, wlp (wpF_X5_bits_4 K) n (x0, (0 : Int32), (0 : Int32), σ)

def wpJ_X5_grantLeave_130 (K : Int32 → Mem → Prop) (x1 x4 : Int32) (σ : Mem) : Prop :=
  (((σ 25 7) ≤ (0 : Int32) → (vp_in ((29 : Int32) + x1) 179 ∧ wp_X5_bits (σ 26 ((29 : Int32) + x1).toNatClampNeg) σ (fun r17 σ16 => wp_X5_keeps_26 σ16 (fun σ18 => (vp_in ((29 : Int32) + x1) 179 ∧ (vp_in ((29 : Int32) + x1) 179 ∧ (∀ σ19 : Mem, σ19 = (st σ18 26 ((29 : Int32) + x1).toNatClampNeg ((σ18 26 ((29 : Int32) + x1).toNatClampNeg) ||| x4)) → (vp_in ((29 : Int32) + x1) 179 ∧ wp_X5_bits (σ19 26 ((29 : Int32) + x1).toNatClampNeg) σ19 (fun r21 σ20 => K (r21 - r17) σ20))))))))) ∧ (¬ (σ 25 7) ≤ (0 : Int32) → K (0 : Int32) σ))

def wpJ_X5_grantLeave_124 (K : Int32 → Mem → Prop) (B75 : Int32 × Int32 × Int32 × Int32 × Mem → Prop) (x1 x2 x4 x5 : Int32) (σ : Mem) : Prop :=
  (∀ v31 : Int32, v31 = x5 + (-1 : Int32) → B75 (x1, x2, x4, v31, σ))

def wpS_X5_grantLeave_75 (K : Int32 → Mem → Prop) (B75 : Int32 × Int32 × Int32 × Int32 × Mem → Prop) (x1 x2 x4 x5 : Int32) (σ : Mem) : Prop :=
  ((x5 < x2 → wpJ_X5_grantLeave_130 K x1 x4 σ) ∧ (¬ x5 < x2 → (∀ v22 : Int32, v22 = x4 ||| ((1 : Int32) <<< (x5 &&& 31)) → wp_X5_where x1 x5 σ (fun r24 σ23 => (((0 : Int32) ≤ r24 → (∀ σ26 : Mem, σ26 = (st σ23 25 8 (4 : Int32)) → wp_X5_where x1 x5 σ26 (fun r28 σ27 => (∀ σ29 : Mem, σ29 = (st σ27 25 9 r28) → (∀ σ30 : Mem, σ30 = (st σ29 25 7 (4 : Int32)) → wpJ_X5_grantLeave_124 K B75 x1 x2 v22 x5 σ30))))) ∧ (¬ (0 : Int32) ≤ r24 → wpJ_X5_grantLeave_124 K B75 x1 x2 v22 x5 σ23))))))

def wpF_X5_grantLeave_75 (K : Int32 → Mem → Prop) (B75 : Int32 × Int32 × Int32 × Int32 × Mem → Prop) (s : Int32 × Int32 × Int32 × Int32 × Mem) : Prop := wpS_X5_grantLeave_75 K B75 s.1 s.2.1 s.2.2.1 s.2.2.2.1 s.2.2.2.2

def wpJ_X5_grantLeave_61 (K : Int32 → Mem → Prop) (x1 x2 x3 y1 : Int32) (σ : Mem) : Prop :=
  wp_X5_fails y1 σ (fun r12 σ11 => ((r12 = (0 : Int32) → ∃ n, wlp (wpF_X5_grantLeave_75 K) n (x1, x2, (0 : Int32), x3, σ11)) ∧ (¬ r12 = (0 : Int32) → K (0 : Int32) σ11)))

def wpJ_X5_grantLeave_37 (K : Int32 → Mem → Prop) (x1 x2 x3 y1 : Int32) (σ : Mem) : Prop :=
  wp_X5_fails y1 σ (fun r8 σ7 => ((r8 = (0 : Int32) → (((σ7 26 2) ≤ x2 → wpJ_X5_grantLeave_61 K x1 x2 x3 (0 : Int32) σ7) ∧ (¬ (σ7 26 2) ≤ x2 → wpJ_X5_grantLeave_61 K x1 x2 x3 (3 : Int32) σ7))) ∧ (¬ r8 = (0 : Int32) → K (0 : Int32) σ7)))

def wpJ_X5_grantLeave_36 (K : Int32 → Mem → Prop) (x1 x2 x3 : Int32) (σ : Mem) : Prop :=
  wpJ_X5_grantLeave_37 K x1 x2 x3 (2 : Int32) σ

def wp_X5_grantLeave (x1 x2 x3 : Int32) (σ : Mem) (K : Int32 → Mem → Prop) : Prop :=
  wp_X5_isGuard x1 σ (fun r2 σ1 => ((¬ r2 = (0 : Int32) → wp_X5_isSlot x2 σ1 (fun r5 σ4 => ((r5 = (0 : Int32) → wpJ_X5_grantLeave_36 K x1 x2 x3 σ4) ∧ (¬ r5 = (0 : Int32) → wp_X5_isSlot x3 σ4 (fun r33 σ32 => ((r33 = (0 : Int32) → wpJ_X5_grantLeave_36 K x1 x2 x3 σ32) ∧ (¬ r33 = (0 : Int32) → ((x3 < x2 → wpJ_X5_grantLeave_36 K x1 x2 x3 σ32) ∧ (¬ x3 < x2 → wpJ_X5_grantLeave_37 K x1 x2 x3 (0 : Int32) σ32))))))))) ∧ (r2 = (0 : Int32) → wpJ_X5_grantLeave_37 K x1 x2 x3 (1 : Int32) σ1)))

def wpJ_X5_endLeave_34 (K : Int32 → Mem → Prop) (x1 x2 y1 : Int32) (σ : Mem) : Prop :=
  wp_X5_fails y1 σ (fun r5 σ4 => ((r5 = (0 : Int32) → wp_X5_keeps_26 σ4 (fun σ7 => (vp_in ((29 : Int32) + x1) 179 ∧ (vp_in ((29 : Int32) + x1) 179 ∧ (∀ σ8 : Mem, σ8 = (st σ7 26 ((29 : Int32) + x1).toNatClampNeg ((σ7 26 ((29 : Int32) + x1).toNatClampNeg) &&& (((1 : Int32) <<< (x2 &&& 31)) ^^^ (-1 : Int32)))) → (vp_in ((29 : Int32) + x1) 179 ∧ wp_X5_bits (σ8 26 ((29 : Int32) + x1).toNatClampNeg) σ8 (fun r10 σ9 => K r10 σ9))))))) ∧ (¬ r5 = (0 : Int32) → K (0 : Int32) σ4)))

def wpJ_X5_endLeave_16 (K : Int32 → Mem → Prop) (x1 x2 : Int32) (σ : Mem) : Prop :=
  wpJ_X5_endLeave_34 K x1 x2 (1 : Int32) σ

def wp_X5_endLeave (x1 x2 : Int32) (σ : Mem) (K : Int32 → Mem → Prop) : Prop :=
  wp_X5_isGuard x1 σ (fun r2 σ1 => ((r2 = (0 : Int32) → wpJ_X5_endLeave_16 K x1 x2 σ1) ∧ (¬ r2 = (0 : Int32) → wp_X5_isSlot x2 σ1 (fun r12 σ11 => ((¬ r12 = (0 : Int32) → wp_X5_isOff x1 x2 σ11 (fun r15 σ14 => ((r15 = (0 : Int32) → wpJ_X5_endLeave_34 K x1 x2 (2 : Int32) σ14) ∧ (¬ r15 = (0 : Int32) → wpJ_X5_endLeave_34 K x1 x2 (0 : Int32) σ14)))) ∧ (r12 = (0 : Int32) → wpJ_X5_endLeave_16 K x1 x2 σ11))))))

def wpJ_X5_isOnLeave_21 (K : Int32 → Mem → Prop) (x1 x2 y1 : Int32) (σ : Mem) : Prop :=
  wp_X5_fails y1 σ (fun r5 σ4 => ((¬ r5 = (0 : Int32) → K (0 : Int32) σ4) ∧ (r5 = (0 : Int32) → wp_X5_isOff x1 x2 σ4 (fun r8 σ7 => ((r8 = (0 : Int32) → K (0 : Int32) σ7) ∧ (¬ r8 = (0 : Int32) → K (1 : Int32) σ7))))))

def wpJ_X5_isOnLeave_20 (K : Int32 → Mem → Prop) (x1 x2 : Int32) (σ : Mem) : Prop :=
  wpJ_X5_isOnLeave_21 K x1 x2 (1 : Int32) σ

def wp_X5_isOnLeave (x1 x2 : Int32) (σ : Mem) (K : Int32 → Mem → Prop) : Prop :=
  wp_X5_isGuard x1 σ (fun r2 σ1 => ((r2 = (0 : Int32) → wpJ_X5_isOnLeave_20 K x1 x2 σ1) ∧ (¬ r2 = (0 : Int32) → wp_X5_isSlot x2 σ1 (fun r11 σ10 => ((r11 = (0 : Int32) → wpJ_X5_isOnLeave_20 K x1 x2 σ10) ∧ (¬ r11 = (0 : Int32) → wpJ_X5_isOnLeave_21 K x1 x2 (0 : Int32) σ10))))))

def wp_X5_leaveSlots (x1 : Int32) (σ : Mem) (K : Int32 → Mem → Prop) : Prop :=
  wp_X5_isNone x1 σ (fun r2 σ1 => ((r2 = (0 : Int32) → (vp_in ((29 : Int32) + x1) 179 ∧ wp_X5_bits (σ1 26 ((29 : Int32) + x1).toNatClampNeg) σ1 (fun r5 σ4 => K r5 σ4))) ∧ (¬ r2 = (0 : Int32) → K (0 : Int32) σ1)))

def wpJ_X5_addRations_33 (K : Int32 → Mem → Prop) (x1 y1 : Int32) (σ : Mem) : Prop :=
  wp_X5_fails y1 σ (fun r6 σ5 => ((r6 = (0 : Int32) → wp_X5_keeps_26 σ5 (fun σ8 => (∀ σ9 : Mem, σ9 = (st σ8 26 3 ((σ8 26 3) + x1)) → K (σ9 26 3) σ9))) ∧ (¬ r6 = (0 : Int32) → K (0 : Int32) σ5)))

def wp_X5_addRations (x1 : Int32) (σ : Mem) (K : Int32 → Mem → Prop) : Prop :=
  wp_X5_in x1 (1 : Int32) (50 : Int32) σ (fun r2 σ1 => ((¬ r2 = (0 : Int32) → ((((σ1 26 3) + x1) ≤ (99 : Int32) → wpJ_X5_addRations_33 K x1 (0 : Int32) σ1) ∧ (¬ ((σ1 26 3) + x1) ≤ (99 : Int32) → wpJ_X5_addRations_33 K x1 (2 : Int32) σ1))) ∧ (r2 = (0 : Int32) → wpJ_X5_addRations_33 K x1 (1 : Int32) σ1)))

def wpJ_X5_goes_81 (K : Int32 → Mem → Prop) (x1 : Int32) (σ : Mem) : Prop :=
  (∀ σ2 : Mem, σ2 = (st σ 26 2 ((σ 26 2) + (1 : Int32))) → K x1 σ2)

def wpJ_X5_goes_75 (K : Int32 → Mem → Prop) (B4 : Int32 × Int32 × Mem → Prop) (x1 x2 : Int32) (σ : Mem) : Prop :=
  (∀ v9 : Int32, v9 = x2 + (1 : Int32) → B4 (x1, v9, σ))

def wpS_X5_goes_4 (K : Int32 → Mem → Prop) (B4 : Int32 × Int32 × Mem → Prop) (x1 x2 : Int32) (σ : Mem) : Prop :=
  (((σ 26 0) ≤ x2 → wpJ_X5_goes_81 K x1 σ) ∧ (¬ (σ 26 0) ≤ x2 → wp_X5_who x2 (σ 26 2) σ (fun r4 σ3 => (((0 : Int32) ≤ r4 → (((σ3 26 3) ≤ (0 : Int32) → (vp_in (((9 : Int32) + ((2 : Int32) * r4)) + (1 : Int32)) 179 ∧ (vp_in (((9 : Int32) + ((2 : Int32) * r4)) + (1 : Int32)) 179 ∧ (∀ σ7 : Mem, σ7 = (st σ3 26 (((9 : Int32) + ((2 : Int32) * r4)) + (1 : Int32)).toNatClampNeg ((σ3 26 (((9 : Int32) + ((2 : Int32) * r4)) + (1 : Int32)).toNatClampNeg) + (1 : Int32))) → (∀ v8 : Int32, v8 = x1 + (1 : Int32) → wpJ_X5_goes_75 K B4 v8 x2 σ7))))) ∧ (¬ (σ3 26 3) ≤ (0 : Int32) → (∀ σ10 : Mem, σ10 = (st σ3 26 3 ((σ3 26 3) - (1 : Int32))) → wpJ_X5_goes_75 K B4 x1 x2 σ10)))) ∧ (¬ (0 : Int32) ≤ r4 → wpJ_X5_goes_75 K B4 x1 x2 σ3)))))

def wpF_X5_goes_4 (K : Int32 → Mem → Prop) (B4 : Int32 × Int32 × Mem → Prop) (s : Int32 × Int32 × Mem) : Prop := wpS_X5_goes_4 K B4 s.1 s.2.1 s.2.2

def wp_X5_goes (σ : Mem) (K : Int32 → Mem → Prop) : Prop :=
  ∃ n, wlp (wpF_X5_goes_4 K) n ((0 : Int32), (0 : Int32), σ)

def wpS_X5_passSlots_53 (K : Int32 → Mem → Prop) (B53 : Int32 × Int32 × Int32 × Mem → Prop) (x1 x2 x3 : Int32) (σ : Mem) : Prop :=
  ((x1 ≤ x3 → K x2 σ) ∧ (¬ x1 ≤ x3 → wp_X5_goes σ (fun r11 σ10 => (∀ v12 : Int32, v12 = x2 + r11 → (∀ v13 : Int32, v13 = x3 + (1 : Int32) → B53 (x1, v12, v13, σ10))))))

def wpF_X5_passSlots_53 (K : Int32 → Mem → Prop) (B53 : Int32 × Int32 × Int32 × Mem → Prop) (s : Int32 × Int32 × Int32 × Mem) : Prop := wpS_X5_passSlots_53 K B53 s.1 s.2.1 s.2.2.1 s.2.2.2

def wpJ_X5_passSlots_33 (K : Int32 → Mem → Prop) (x1 y1 : Int32) (σ : Mem) : Prop :=
  wp_X5_fails y1 σ (fun r6 σ5 => ((r6 = (0 : Int32) → wp_X5_keeps_26 σ5 (fun σ8 => ∃ n, wlp (wpF_X5_passSlots_53 K) n (x1, (0 : Int32), (0 : Int32), σ8))) ∧ (¬ r6 = (0 : Int32) → K (0 : Int32) σ5)))

def wp_X5_passSlots (x1 : Int32) (σ : Mem) (K : Int32 → Mem → Prop) : Prop :=
  wp_X5_in x1 (1 : Int32) (28 : Int32) σ (fun r2 σ1 => ((¬ r2 = (0 : Int32) → ((x1 ≤ ((28 : Int32) - (σ1 26 2)) → wpJ_X5_passSlots_33 K x1 (0 : Int32) σ1) ∧ (¬ x1 ≤ ((28 : Int32) - (σ1 26 2)) → wpJ_X5_passSlots_33 K x1 (2 : Int32) σ1))) ∧ (r2 = (0 : Int32) → wpJ_X5_passSlots_33 K x1 (1 : Int32) σ1)))

def wp_X5_rations (σ : Mem) (K : Int32 → Mem → Prop) : Prop :=
  (∀ σ1 : Mem, σ1 = (st σ 25 7 (0 : Int32)) → K (σ1 26 3) σ1)

def wp_X5_currentSlot (σ : Mem) (K : Int32 → Mem → Prop) : Prop :=
  (∀ σ1 : Mem, σ1 = (st σ 25 7 (0 : Int32)) → K (σ1 26 2) σ1)

def wpJ_X5_missingRations_41 (K : Int32 → Mem → Prop) (x1 : Int32) (σ : Mem) : Prop :=
  ((x1 ≤ (σ 26 3) → K (0 : Int32) σ) ∧ (¬ x1 ≤ (σ 26 3) → K (x1 - (σ 26 3)) σ))

def wpS_X5_missingRations_14 (K : Int32 → Mem → Prop) (B14 : Int32 × Int32 × Mem → Prop) (x1 x2 : Int32) (σ : Mem) : Prop :=
  (((28 : Int32) ≤ x2 → wpJ_X5_missingRations_41 K x1 σ) ∧ (¬ (28 : Int32) ≤ x2 → wp_X5_open x2 σ (fun r6 σ5 => (∀ v7 : Int32, v7 = x1 + ((σ 26 0) - r6) → (∀ v8 : Int32, v8 = x2 + (1 : Int32) → B14 (v7, v8, σ5))))))

def wpF_X5_missingRations_14 (K : Int32 → Mem → Prop) (B14 : Int32 × Int32 × Mem → Prop) (s : Int32 × Int32 × Mem) : Prop := wpS_X5_missingRations_14 K B14 s.1 s.2.1 s.2.2

def wp_X5_missingRations (σ : Mem) (K : Int32 → Mem → Prop) : Prop :=
  (∀ σ1 : Mem, σ1 = (st σ 25 7 (0 : Int32)) → (∀ v2 : Int32, v2 = σ1 26 2 → ∃ n, wlp (wpF_X5_missingRations_14 K) n ((0 : Int32), v2, σ1)))

def wpJ_X5_refusalReason_13 (K : Int32 → Mem → Prop) (y1 : Int32) (σ : Mem) : Prop :=
  wp_X5_fails y1 σ (fun r3 σ2 => ((r3 = (0 : Int32) → K (σ2 25 8) σ2) ∧ (¬ r3 = (0 : Int32) → K (0 : Int32) σ2)))

def wp_X5_refusalReason (σ : Mem) (K : Int32 → Mem → Prop) : Prop :=
  ((¬ (σ 25 8) = (0 : Int32) → wpJ_X5_refusalReason_13 K (0 : Int32) σ) ∧ ((σ 25 8) = (0 : Int32) → wpJ_X5_refusalReason_13 K (1 : Int32) σ))

def wpJ_X5_refusalDetail_13 (K : Int32 → Mem → Prop) (y1 : Int32) (σ : Mem) : Prop :=
  wp_X5_fails y1 σ (fun r3 σ2 => ((r3 = (0 : Int32) → K (σ2 25 9) σ2) ∧ (¬ r3 = (0 : Int32) → K (0 : Int32) σ2)))

def wp_X5_refusalDetail (σ : Mem) (K : Int32 → Mem → Prop) : Prop :=
  ((¬ (σ 25 8) = (0 : Int32) → wpJ_X5_refusalDetail_13 K (0 : Int32) σ) ∧ ((σ 25 8) = (0 : Int32) → wpJ_X5_refusalDetail_13 K (1 : Int32) σ))

def wp_X5_writes (x1 : Int32) (σ : Mem) (K : Mem → Prop) : Prop :=
  (vp_in (σ 25 15) 60 ∧ (∀ σ1 : Mem, σ1 = (st σ 31 (σ 25 15).toNatClampNeg (vp_nar .char ((x1.toUInt32 % 65536).toInt32))) → (∀ σ2 : Mem, σ2 = (st σ1 25 15 ((σ1 25 15) + (1 : Int32))) → K σ2)))

def wpJ_X5_writeSlot_116 (K : Int32 → Mem → Prop) (B76 : Int32 × Int32 × Mem → Prop) (x1 x2 y1 : Int32) (σ : Mem) : Prop :=
  wp_X5_writes y1 σ (fun σ20 => (∀ v21 : Int32, v21 = x2 + (1 : Int32) → B76 (x1, v21, σ20)))

def wpS_X5_writeSlot_76 (K : Int32 → Mem → Prop) (B76 : Int32 × Int32 × Mem → Prop) (x1 x2 : Int32) (σ : Mem) : Prop :=
  (((σ 26 0) ≤ x2 → K (σ 25 15) σ) ∧ (¬ (σ 26 0) ≤ x2 → wp_X5_writes (32 : Int32) σ (fun σ14 => wp_X5_who x2 x1 σ14 (fun r16 σ15 => (((0 : Int32) ≤ r16 → wp_X5_who x2 x1 σ15 (fun r19 σ18 => wpJ_X5_writeSlot_116 K B76 x1 x2 ((48 : Int32) + r19) σ18)) ∧ (¬ (0 : Int32) ≤ r16 → wpJ_X5_writeSlot_116 K B76 x1 x2 (45 : Int32) σ15))))))

def wpF_X5_writeSlot_76 (K : Int32 → Mem → Prop) (B76 : Int32 × Int32 × Mem → Prop) (s : Int32 × Int32 × Mem) : Prop := wpS_X5_writeSlot_76 K B76 s.1 s.2.1 s.2.2

def wpJ_X5_writeSlot_55 (K : Int32 → Mem → Prop) (x1 : Int32) (σ : Mem) : Prop :=
  wp_X5_writes ((48 : Int32) + ((x1 / (2 : Int32)) - (x1 / (2 : Int32)) / (10 : Int32) * (10 : Int32))) σ (fun σ11 => wp_X5_writes (58 : Int32) σ11 (fun σ12 => ∃ n, wlp (wpF_X5_writeSlot_76 K) n (x1, (0 : Int32), σ12)))

def wpJ_X5_writeSlot_40 (K : Int32 → Mem → Prop) (x1 y1 : Int32) (σ : Mem) : Prop :=
  wp_X5_writes y1 σ (fun σ9 => ((x1 ≤ (19 : Int32) → wpJ_X5_writeSlot_55 K x1 σ9) ∧ (¬ x1 ≤ (19 : Int32) → wp_X5_writes (49 : Int32) σ9 (fun σ22 => wpJ_X5_writeSlot_55 K x1 σ22))))

def wpJ_X5_writeSlot_13 (K : Int32 → Mem → Prop) (x1 y1 : Int32) (σ : Mem) : Prop :=
  wp_X5_fails y1 σ (fun r5 σ4 => ((r5 = (0 : Int32) → (∀ σ7 : Mem, σ7 = (st σ4 25 15 (0 : Int32)) → ((¬ (x1 - x1 / (2 : Int32) * (2 : Int32)) = (0 : Int32) → wpJ_X5_writeSlot_40 K x1 (110 : Int32) σ7) ∧ ((x1 - x1 / (2 : Int32) * (2 : Int32)) = (0 : Int32) → wpJ_X5_writeSlot_40 K x1 (100 : Int32) σ7)))) ∧ (¬ r5 = (0 : Int32) → K (0 : Int32) σ4)))

def wp_X5_writeSlot (x1 : Int32) (σ : Mem) (K : Int32 → Mem → Prop) : Prop :=
  wp_X5_isSlot x1 σ (fun r2 σ1 => ((r2 = (0 : Int32) → wpJ_X5_writeSlot_13 K x1 (1 : Int32) σ1) ∧ (¬ r2 = (0 : Int32) → wpJ_X5_writeSlot_13 K x1 (0 : Int32) σ1)))

def wpJ_X5_writeGuard_61 (K : Int32 → Mem → Prop) (B17 : Int32 × Int32 × Mem → Prop) (x1 x2 y1 : Int32) (σ : Mem) : Prop :=
  wp_X5_writes y1 σ (fun σ12 => (∀ v13 : Int32, v13 = x2 + (1 : Int32) → B17 (x1, v13, σ12)))

def wpS_X5_writeGuard_17 (K : Int32 → Mem → Prop) (B17 : Int32 × Int32 × Mem → Prop) (x1 x2 : Int32) (σ : Mem) : Prop :=
  (((28 : Int32) ≤ x2 → K (σ 25 15) σ) ∧ (¬ (28 : Int32) ≤ x2 → wp_X5_where x1 x2 σ (fun r7 σ6 => ((r7 < (0 : Int32) → wp_X5_isOff x1 x2 σ6 (fun r10 σ9 => ((r10 = (0 : Int32) → wpJ_X5_writeGuard_61 K B17 x1 x2 (46 : Int32) σ9) ∧ (¬ r10 = (0 : Int32) → wpJ_X5_writeGuard_61 K B17 x1 x2 (120 : Int32) σ9)))) ∧ (¬ r7 < (0 : Int32) → wp_X5_where x1 x2 σ6 (fun r15 σ14 => wpJ_X5_writeGuard_61 K B17 x1 x2 ((48 : Int32) + r15) σ14))))))

def wpF_X5_writeGuard_17 (K : Int32 → Mem → Prop) (B17 : Int32 × Int32 × Mem → Prop) (s : Int32 × Int32 × Mem) : Prop := wpS_X5_writeGuard_17 K B17 s.1 s.2.1 s.2.2

def wp_X5_writeGuard (x1 : Int32) (σ : Mem) (K : Int32 → Mem → Prop) : Prop :=
  wp_X5_isNone x1 σ (fun r2 σ1 => ((r2 = (0 : Int32) → (∀ σ4 : Mem, σ4 = (st σ1 25 15 (0 : Int32)) → ∃ n, wlp (wpF_X5_writeGuard_17 K) n (x1, (0 : Int32), σ4))) ∧ (¬ r2 = (0 : Int32) → K (0 : Int32) σ1)))

def wpJ_X5_outputCharacter_20 (K : Int32 → Mem → Prop) (x1 y1 : Int32) (σ : Mem) : Prop :=
  wp_X5_fails y1 σ (fun r5 σ4 => ((r5 = (0 : Int32) → (vp_in x1 60 ∧ (narrow .char (.int (σ4 31 x1.toNatClampNeg)) = .int (σ4 31 x1.toNatClampNeg) ∧ K (σ4 31 x1.toNatClampNeg) σ4))) ∧ (¬ r5 = (0 : Int32) → K (32 : Int32) σ4)))

def wp_X5_outputCharacter (x1 : Int32) (σ : Mem) (K : Int32 → Mem → Prop) : Prop :=
  wp_X5_in x1 (0 : Int32) ((σ 25 15) - (1 : Int32)) σ (fun r2 σ1 => ((r2 = (0 : Int32) → wpJ_X5_outputCharacter_20 K x1 (1 : Int32) σ1) ∧ (¬ r2 = (0 : Int32) → wpJ_X5_outputCharacter_20 K x1 (0 : Int32) σ1)))

def wpJ_X5_isConsistent_53 (K : Int32 → Mem → Prop) (B7 : Int32 × Mem → Prop) (x1 : Int32) (σ : Mem) : Prop :=
  (∀ v4 : Int32, v4 = x1 + (1 : Int32) → B7 (v4, σ))

def wpJ_X5_isConsistent_47 (K : Int32 → Mem → Prop) (B7 : Int32 × Mem → Prop) (B19 : Int32 × Int32 × Mem → Prop) (x1 x2 : Int32) (σ : Mem) : Prop :=
  (∀ v8 : Int32, v8 = x2 + (1 : Int32) → B19 (x1, v8, σ))

def wpS_X5_isConsistent_19 (K : Int32 → Mem → Prop) (B7 : Int32 × Mem → Prop) (B19 : Int32 × Int32 × Mem → Prop) (x1 x2 : Int32) (σ : Mem) : Prop :=
  (((28 : Int32) ≤ x2 → wpJ_X5_isConsistent_53 K B7 x1 σ) ∧ (¬ (28 : Int32) ≤ x2 → wp_X5_where x1 x2 σ (fun r6 σ5 => ((r6 < (0 : Int32) → wpJ_X5_isConsistent_47 K B7 B19 x1 x2 σ5) ∧ (¬ r6 < (0 : Int32) → wp_X5_where x1 (x2 - (1 : Int32)) σ5 (fun r10 σ9 => ((r10 < (0 : Int32) → wpJ_X5_isConsistent_47 K B7 B19 x1 x2 σ9) ∧ (¬ r10 < (0 : Int32) → K (0 : Int32) σ9))))))))

def wpF_X5_isConsistent_19 (K : Int32 → Mem → Prop) (B7 : Int32 × Mem → Prop) (B19 : Int32 × Int32 × Mem → Prop) (s : Int32 × Int32 × Mem) : Prop := wpS_X5_isConsistent_19 K B7 B19 s.1 s.2.1 s.2.2

def wpS_X5_isConsistent_7 (K : Int32 → Mem → Prop) (B7 : Int32 × Mem → Prop) (x1 : Int32) (σ : Mem) : Prop :=
  (((σ 26 1) ≤ x1 → K (1 : Int32) σ) ∧ (¬ (σ 26 1) ≤ x1 → ∃ n, wlp (wpF_X5_isConsistent_19 K B7) n (x1, (1 : Int32), σ)))

def wpF_X5_isConsistent_7 (K : Int32 → Mem → Prop) (B7 : Int32 × Mem → Prop) (s : Int32 × Mem) : Prop := wpS_X5_isConsistent_7 K B7 s.1 s.2

def wp_X5_isConsistent (σ : Mem) (K : Int32 → Mem → Prop) : Prop :=
  (∀ σ1 : Mem, σ1 = (st σ 25 7 (0 : Int32)) → ∃ n, wlp (wpF_X5_isConsistent_7 K) n ((0 : Int32), σ1))

def wpJ_X5_feed_15 (K : Int32 → Mem → Prop) (x1 y1 : Int32) (σ : Mem) : Prop :=
  wp_X5_fails y1 σ (fun r3 σ2 => ((r3 = (0 : Int32) → (vp_in (σ2 25 11) 60 ∧ (∀ σ5 : Mem, σ5 = (st σ2 30 (σ2 25 11).toNatClampNeg x1) → (∀ σ6 : Mem, σ6 = (st σ5 25 11 ((σ5 25 11) + (1 : Int32))) → K (σ6 25 11) σ6)))) ∧ (¬ r3 = (0 : Int32) → K (0 : Int32) σ2)))

def wp_X5_feed (x1 : Int32) (σ : Mem) (K : Int32 → Mem → Prop) : Prop :=
  ((¬ (σ 25 11) = (60 : Int32) → wpJ_X5_feed_15 K x1 (0 : Int32) σ) ∧ ((σ 25 11) = (60 : Int32) → wpJ_X5_feed_15 K x1 (1 : Int32) σ))

def wp_X5_here (σ : Mem) (K : Int32 → Mem → Prop) : Prop :=
  (((σ 25 11) ≤ (σ 25 18) → K (-1 : Int32) σ) ∧ (¬ (σ 25 11) ≤ (σ 25 18) → (vp_in (σ 25 18) 60 ∧ K (σ 30 (σ 25 18).toNatClampNeg) σ)))

def wp_X5_skips (x1 : Int32) (σ : Mem) (K : Int32 → Mem → Prop) : Prop :=
  wp_X5_here σ (fun r2 σ1 => ((r2 = x1 → (∀ σ4 : Mem, σ4 = (st σ1 25 18 ((σ1 25 18) + (1 : Int32))) → K (1 : Int32) σ4)) ∧ (¬ r2 = x1 → K (0 : Int32) σ1)))

def wpS_X5_figures_34 (K : Int32 → Mem → Prop) (B34 : Int32 × Int32 × Int32 × Mem → Prop) (x2 x3 x4 : Int32) (σ : Mem) : Prop :=
  ((x3 ≤ x4 → K (1 : Int32) σ) ∧ (¬ x3 ≤ x4 → wp_X5_here σ (fun r12 σ11 => wp_X5_in r12 (48 : Int32) (57 : Int32) σ11 (fun r14 σ13 => ((r14 = (0 : Int32) → K (1 : Int32) σ13) ∧ (¬ r14 = (0 : Int32) → (vp_in x2 124 ∧ wp_X5_here σ13 (fun r17 σ16 => (vp_in x2 124 ∧ (∀ σ18 : Mem, σ18 = (st σ16 33 x2.toNatClampNeg ((((10 : Int32) * (σ13 33 x2.toNatClampNeg)) + r17) - (48 : Int32))) → (∀ σ19 : Mem, σ19 = (st σ18 25 18 ((σ18 25 18) + (1 : Int32))) → (∀ v20 : Int32, v20 = x4 + (1 : Int32) → B34 (x2, x3, v20, σ19)))))))))))))

def wpF_X5_figures_34 (K : Int32 → Mem → Prop) (B34 : Int32 × Int32 × Int32 × Mem → Prop) (s : Int32 × Int32 × Int32 × Mem) : Prop := wpS_X5_figures_34 K B34 s.1 s.2.1 s.2.2.1 s.2.2.2

def wp_X5_figures (x1 x2 x3 : Int32) (σ : Mem) (K : Int32 → Mem → Prop) : Prop :=
  wp_X5_skips x1 σ (fun r2 σ1 => ((r2 = (0 : Int32) → K (0 : Int32) σ1) ∧ (¬ r2 = (0 : Int32) → wp_X5_here σ1 (fun r5 σ4 => wp_X5_in r5 (48 : Int32) (57 : Int32) σ4 (fun r7 σ6 => ((¬ r7 = (0 : Int32) → (vp_in x2 124 ∧ (∀ σ9 : Mem, σ9 = (st σ6 33 x2.toNatClampNeg (0 : Int32)) → ∃ n, wlp (wpF_X5_figures_34 K) n (x2, x3, (0 : Int32), σ9)))) ∧ (r7 = (0 : Int32) → K (0 : Int32) σ6)))))))

def wp_X5_carries (x1 : Int32) (σ : Mem) (K : Int32 → Mem → Prop) : Prop :=
  (vp_in (x1 + (1 : Int32)) 124 ∧ (∀ v1 : Int32, v1 = σ 33 (x1 + (1 : Int32)).toNatClampNeg → (vp_in (x1 + (2 : Int32)) 124 ∧ (∀ v2 : Int32, v2 = σ 33 (x1 + (2 : Int32)).toNatClampNeg → (vp_in (x1 + (3 : Int32)) 124 ∧ (∀ v3 : Int32, v3 = σ 33 (x1 + (3 : Int32)).toNatClampNeg → (vp_in x1 124 ∧ (∀ v4 : Int32, v4 = σ 33 x1.toNatClampNeg → ((v4 = (0 : Int32) → wp_X5_addGate v1 σ (fun r6 σ5 => K r6 σ5)) ∧ (v4 = (1 : Int32) → wp_X5_addGuard v1 σ (fun r9 σ8 => K r9 σ8)) ∧ (v4 = (2 : Int32) → wp_X5_assign v1 v2 v3 σ (fun r12 σ11 => K r12 σ11)) ∧ (v4 = (3 : Int32) → wp_X5_remove v1 v2 σ (fun r15 σ14 => K r15 σ14)) ∧ (v4 = (4 : Int32) → wp_X5_grantLeave v1 v2 v3 σ (fun r18 σ17 => K r18 σ17)) ∧ (v4 = (5 : Int32) → wp_X5_fillSlot v1 σ (fun r21 σ20 => K r21 σ20)) ∧ (v4 = (6 : Int32) → wp_X5_addRations v1 σ (fun r24 σ23 => K r24 σ23)) ∧ (¬ v4 = (0 : Int32) → ¬ v4 = (1 : Int32) → ¬ v4 = (2 : Int32) → ¬ v4 = (3 : Int32) → ¬ v4 = (4 : Int32) → ¬ v4 = (5 : Int32) → ¬ v4 = (6 : Int32) → wp_X5_passSlots v1 σ (fun r27 σ26 => K r27 σ26)))))))))))

def wpJ_X5_errorPosition_13 (K : Int32 → Mem → Prop) (y1 : Int32) (σ : Mem) : Prop :=
  wp_X5_fails y1 σ (fun r3 σ2 => ((r3 = (0 : Int32) → K (σ2 25 12) σ2) ∧ (¬ r3 = (0 : Int32) → K (0 : Int32) σ2)))

def wp_X5_errorPosition (σ : Mem) (K : Int32 → Mem → Prop) : Prop :=
  (((0 : Int32) ≤ (σ 25 12) → wpJ_X5_errorPosition_13 K (0 : Int32) σ) ∧ (¬ (0 : Int32) ≤ (σ 25 12) → wpJ_X5_errorPosition_13 K (1 : Int32) σ))

def wpJ_X5_failedCommand_13 (K : Int32 → Mem → Prop) (y1 : Int32) (σ : Mem) : Prop :=
  wp_X5_fails y1 σ (fun r3 σ2 => ((r3 = (0 : Int32) → K (σ2 25 13) σ2) ∧ (¬ r3 = (0 : Int32) → K (0 : Int32) σ2)))

def wp_X5_failedCommand (σ : Mem) (K : Int32 → Mem → Prop) : Prop :=
  (((0 : Int32) ≤ (σ 25 13) → wpJ_X5_failedCommand_13 K (0 : Int32) σ) ∧ (¬ (0 : Int32) ≤ (σ 25 13) → wpJ_X5_failedCommand_13 K (1 : Int32) σ))

def wpJ_X5_undo_13 (K : Int32 → Mem → Prop) (y1 : Int32) (σ : Mem) : Prop :=
  wp_X5_fails y1 σ (fun r3 σ2 => ((r3 = (0 : Int32) → (∀ σ5 : Mem, σ5 = (st σ2 25 5 ((σ2 25 5) - (1 : Int32))) → wp_X5_copies_27_26 ((179 : Int32) * (σ5 25 5)) (0 : Int32) σ5 (fun σ6 => K (σ6 25 5) σ6))) ∧ (¬ r3 = (0 : Int32) → K (0 : Int32) σ2)))

def wp_X5_undo (σ : Mem) (K : Int32 → Mem → Prop) : Prop :=
  ((¬ (σ 25 5) = (0 : Int32) → wpJ_X5_undo_13 K (0 : Int32) σ) ∧ ((σ 25 5) = (0 : Int32) → wpJ_X5_undo_13 K (1 : Int32) σ))

def wp_X5_undoCount (σ : Mem) (K : Int32 → Mem → Prop) : Prop :=
  (∀ σ1 : Mem, σ1 = (st σ 25 7 (0 : Int32)) → K (σ1 25 5) σ1)

def wp_X5_save (σ : Mem) (K : Int32 → Mem → Prop) : Prop :=
  (∀ σ1 : Mem, σ1 = (st σ 25 7 (0 : Int32)) → (∀ σ2 : Mem, σ2 = (st σ1 25 4 (1 : Int32)) → wp_X5_copies_26_28 (0 : Int32) (0 : Int32) σ2 (fun σ3 => K (σ3 26 1) σ3)))

def wpJ_X5_restore_13 (K : Int32 → Mem → Prop) (y1 : Int32) (σ : Mem) : Prop :=
  wp_X5_fails y1 σ (fun r3 σ2 => ((r3 = (0 : Int32) → wp_X5_copies_28_26 (0 : Int32) (0 : Int32) σ2 (fun σ5 => (∀ σ6 : Mem, σ6 = (st σ5 25 5 (0 : Int32)) → K (σ6 26 1) σ6))) ∧ (¬ r3 = (0 : Int32) → K (0 : Int32) σ2)))

def wp_X5_restore (σ : Mem) (K : Int32 → Mem → Prop) : Prop :=
  (((σ 25 4) = (0 : Int32) → wpJ_X5_restore_13 K (1 : Int32) σ) ∧ (¬ (σ 25 4) = (0 : Int32) → wpJ_X5_restore_13 K (0 : Int32) σ))

def wp_X0_shapeOf (x0 : Int32) (σ : Mem) (K : Nat → Mem → Prop) : Prop :=
  ((x0 = (0 : Int32) → K 0 σ) ∧ (x0 = (1 : Int32) → K 1 σ) ∧ (x0 = (2 : Int32) → K 2 σ) ∧ (x0 = (3 : Int32) → K 3 σ) ∧ (x0 = (4 : Int32) → K 4 σ) ∧ (x0 = (5 : Int32) → K 5 σ) ∧ (x0 = (6 : Int32) → K 6 σ) ∧ (¬ x0 = (0 : Int32) → ¬ x0 = (1 : Int32) → ¬ x0 = (2 : Int32) → ¬ x0 = (3 : Int32) → ¬ x0 = (4 : Int32) → ¬ x0 = (5 : Int32) → ¬ x0 = (6 : Int32) → K 7 σ))

def wpJ_X0_readShape_0_147 (K : Int32 → Mem → Prop) (B8 : Int32 × Int32 × Int32 × Mem → Prop) (x3 x4 x5 : Int32) (σ : Mem) : Prop :=
  (∀ v10 : Int32, v10 = x5 + (1 : Int32) → B8 (x3, x4, v10, σ))

def wpJ_X0_readShape_0_136 (K : Int32 → Mem → Prop) (B8 : Int32 × Int32 × Int32 × Mem → Prop) (x3 x4 x5 x9 : Int32) (σ : Mem) : Prop :=
  wp_X0_keepValue x4 x9 σ (fun σ15 => (∀ v16 : Int32, v16 = x4 + (1 : Int32) → wpJ_X0_readShape_0_147 K B8 x3 v16 x5 σ15))

def wpJ_X0_readShape_0_83 (K : Int32 → Mem → Prop) (B8 : Int32 × Int32 × Int32 × Mem → Prop) (x3 x4 x5 x6 x7 x8 : Int32) (σ : Mem) : Prop :=
  (∀ v8 : Int32, v8 = x3 + (1 : Int32) → ((x8 = (0 : Int32) → wpJ_X0_readShape_0_147 K B8 v8 x4 x5 σ) ∧ (¬ x8 = (0 : Int32) → (∀ v11 : Int32, v11 = x7 - (48 : Int32) → wp_X0_characterAt v8 σ (fun r13 σ12 => ((¬ x6 = (37 : Int32) → wpJ_X0_readShape_0_136 K B8 v8 x4 x5 v11 σ12) ∧ (x6 = (37 : Int32) → wp_X0_isDigit r13 σ12 (fun r18 σ17 => ((r18 = (0 : Int32) → wpJ_X0_readShape_0_136 K B8 v8 x4 x5 v11 σ17) ∧ (¬ r18 = (0 : Int32) → (∀ v20 : Int32, v20 = ((v11 * (10 : Int32)) + r13) - (48 : Int32) → (∀ v21 : Int32, v21 = v8 + (1 : Int32) → wpJ_X0_readShape_0_136 K B8 v21 x4 x5 v20 σ17))))))))))))

def wpJ_X0_readShape_0_76 (K : Int32 → Mem → Prop) (x3 : Int32) (σ : Mem) : Prop :=
  (∀ σ22 : Mem, σ22 = (st σ 19 5 x3) → K (-1 : Int32) σ22)

def wpJ_X0_readShape_0_66 (K : Int32 → Mem → Prop) (x3 : Int32) (σ : Mem) : Prop :=
  wpJ_X0_readShape_0_76 K x3 σ

def wpJ_X0_readShape_0_51 (K : Int32 → Mem → Prop) (B8 : Int32 × Int32 × Int32 × Mem → Prop) (x3 x4 x5 x6 x7 y0 : Int32) (σ : Mem) : Prop :=
  ((y0 = (0 : Int32) → ((x7 = x6 → wpJ_X0_readShape_0_83 K B8 x3 x4 x5 x6 x7 y0 σ) ∧ (¬ x7 = x6 → wpJ_X0_readShape_0_76 K x3 σ))) ∧ (¬ y0 = (0 : Int32) → wp_X0_isDigit x7 σ (fun r24 σ23 => ((¬ r24 = (0 : Int32) → wpJ_X0_readShape_0_83 K B8 x3 x4 x5 x6 x7 y0 σ23) ∧ (r24 = (0 : Int32) → wpJ_X0_readShape_0_66 K x3 σ23)))))

def wpJ_X0_readShape_0_46 (K : Int32 → Mem → Prop) (B8 : Int32 × Int32 × Int32 × Mem → Prop) (x3 x4 x5 x6 x7 : Int32) (σ : Mem) : Prop :=
  wpJ_X0_readShape_0_51 K B8 x3 x4 x5 x6 x7 (1 : Int32) σ

def wpS_X0_readShape_0_8 (K : Int32 → Mem → Prop) (B8 : Int32 × Int32 × Int32 × Mem → Prop) (x3 x4 x5 : Int32) (σ : Mem) : Prop :=
  (((6 : Int32) ≤ x5 → K x3 σ) ∧ (¬ (6 : Int32) ≤ x5 → (vp_in x5 6 ∧ (∀ v2 : Int32, v2 = sch 0 x5 → wp_X0_characterAt x3 σ (fun r4 σ3 => ((v2 = (35 : Int32) → wpJ_X0_readShape_0_46 K B8 x3 x4 x5 v2 r4 σ3) ∧ (¬ v2 = (35 : Int32) → ((¬ v2 = (37 : Int32) → wpJ_X0_readShape_0_51 K B8 x3 x4 x5 v2 r4 (0 : Int32) σ3) ∧ (v2 = (37 : Int32) → wpJ_X0_readShape_0_46 K B8 x3 x4 x5 v2 r4 σ3)))))))))

def wpF_X0_readShape_0_8 (K : Int32 → Mem → Prop) (B8 : Int32 × Int32 × Int32 × Mem → Prop) (s : Int32 × Int32 × Int32 × Mem) : Prop := wpS_X0_readShape_0_8 K B8 s.1 s.2.1 s.2.2.1 s.2.2.2

def wp_X0_readShape_0 (x2 : Int32) (σ : Mem) (K : Int32 → Mem → Prop) : Prop :=
  ∃ n, wlp (wpF_X0_readShape_0_8 K) n (x2, (0 : Int32), (0 : Int32), σ)

def wpJ_X0_readShape_1_147 (K : Int32 → Mem → Prop) (B8 : Int32 × Int32 × Int32 × Mem → Prop) (x3 x4 x5 : Int32) (σ : Mem) : Prop :=
  (∀ v10 : Int32, v10 = x5 + (1 : Int32) → B8 (x3, x4, v10, σ))

def wpJ_X0_readShape_1_136 (K : Int32 → Mem → Prop) (B8 : Int32 × Int32 × Int32 × Mem → Prop) (x3 x4 x5 x9 : Int32) (σ : Mem) : Prop :=
  wp_X0_keepValue x4 x9 σ (fun σ15 => (∀ v16 : Int32, v16 = x4 + (1 : Int32) → wpJ_X0_readShape_1_147 K B8 x3 v16 x5 σ15))

def wpJ_X0_readShape_1_83 (K : Int32 → Mem → Prop) (B8 : Int32 × Int32 × Int32 × Mem → Prop) (x3 x4 x5 x6 x7 x8 : Int32) (σ : Mem) : Prop :=
  (∀ v8 : Int32, v8 = x3 + (1 : Int32) → ((x8 = (0 : Int32) → wpJ_X0_readShape_1_147 K B8 v8 x4 x5 σ) ∧ (¬ x8 = (0 : Int32) → (∀ v11 : Int32, v11 = x7 - (48 : Int32) → wp_X0_characterAt v8 σ (fun r13 σ12 => ((¬ x6 = (37 : Int32) → wpJ_X0_readShape_1_136 K B8 v8 x4 x5 v11 σ12) ∧ (x6 = (37 : Int32) → wp_X0_isDigit r13 σ12 (fun r18 σ17 => ((r18 = (0 : Int32) → wpJ_X0_readShape_1_136 K B8 v8 x4 x5 v11 σ17) ∧ (¬ r18 = (0 : Int32) → (∀ v20 : Int32, v20 = ((v11 * (10 : Int32)) + r13) - (48 : Int32) → (∀ v21 : Int32, v21 = v8 + (1 : Int32) → wpJ_X0_readShape_1_136 K B8 v21 x4 x5 v20 σ17))))))))))))

def wpJ_X0_readShape_1_76 (K : Int32 → Mem → Prop) (x3 : Int32) (σ : Mem) : Prop :=
  (∀ σ22 : Mem, σ22 = (st σ 19 5 x3) → K (-1 : Int32) σ22)

def wpJ_X0_readShape_1_66 (K : Int32 → Mem → Prop) (x3 : Int32) (σ : Mem) : Prop :=
  wpJ_X0_readShape_1_76 K x3 σ

def wpJ_X0_readShape_1_51 (K : Int32 → Mem → Prop) (B8 : Int32 × Int32 × Int32 × Mem → Prop) (x3 x4 x5 x6 x7 y0 : Int32) (σ : Mem) : Prop :=
  ((y0 = (0 : Int32) → ((x7 = x6 → wpJ_X0_readShape_1_83 K B8 x3 x4 x5 x6 x7 y0 σ) ∧ (¬ x7 = x6 → wpJ_X0_readShape_1_76 K x3 σ))) ∧ (¬ y0 = (0 : Int32) → wp_X0_isDigit x7 σ (fun r24 σ23 => ((¬ r24 = (0 : Int32) → wpJ_X0_readShape_1_83 K B8 x3 x4 x5 x6 x7 y0 σ23) ∧ (r24 = (0 : Int32) → wpJ_X0_readShape_1_66 K x3 σ23)))))

def wpJ_X0_readShape_1_46 (K : Int32 → Mem → Prop) (B8 : Int32 × Int32 × Int32 × Mem → Prop) (x3 x4 x5 x6 x7 : Int32) (σ : Mem) : Prop :=
  wpJ_X0_readShape_1_51 K B8 x3 x4 x5 x6 x7 (1 : Int32) σ

def wpS_X0_readShape_1_8 (K : Int32 → Mem → Prop) (B8 : Int32 × Int32 × Int32 × Mem → Prop) (x3 x4 x5 : Int32) (σ : Mem) : Prop :=
  (((7 : Int32) ≤ x5 → K x3 σ) ∧ (¬ (7 : Int32) ≤ x5 → (vp_in x5 7 ∧ (∀ v2 : Int32, v2 = sch 1 x5 → wp_X0_characterAt x3 σ (fun r4 σ3 => ((v2 = (35 : Int32) → wpJ_X0_readShape_1_46 K B8 x3 x4 x5 v2 r4 σ3) ∧ (¬ v2 = (35 : Int32) → ((¬ v2 = (37 : Int32) → wpJ_X0_readShape_1_51 K B8 x3 x4 x5 v2 r4 (0 : Int32) σ3) ∧ (v2 = (37 : Int32) → wpJ_X0_readShape_1_46 K B8 x3 x4 x5 v2 r4 σ3)))))))))

def wpF_X0_readShape_1_8 (K : Int32 → Mem → Prop) (B8 : Int32 × Int32 × Int32 × Mem → Prop) (s : Int32 × Int32 × Int32 × Mem) : Prop := wpS_X0_readShape_1_8 K B8 s.1 s.2.1 s.2.2.1 s.2.2.2

def wp_X0_readShape_1 (x2 : Int32) (σ : Mem) (K : Int32 → Mem → Prop) : Prop :=
  ∃ n, wlp (wpF_X0_readShape_1_8 K) n (x2, (0 : Int32), (0 : Int32), σ)

def wpJ_X0_readShape_2_147 (K : Int32 → Mem → Prop) (B8 : Int32 × Int32 × Int32 × Mem → Prop) (x3 x4 x5 : Int32) (σ : Mem) : Prop :=
  (∀ v10 : Int32, v10 = x5 + (1 : Int32) → B8 (x3, x4, v10, σ))

def wpJ_X0_readShape_2_136 (K : Int32 → Mem → Prop) (B8 : Int32 × Int32 × Int32 × Mem → Prop) (x3 x4 x5 x9 : Int32) (σ : Mem) : Prop :=
  wp_X0_keepValue x4 x9 σ (fun σ15 => (∀ v16 : Int32, v16 = x4 + (1 : Int32) → wpJ_X0_readShape_2_147 K B8 x3 v16 x5 σ15))

def wpJ_X0_readShape_2_83 (K : Int32 → Mem → Prop) (B8 : Int32 × Int32 × Int32 × Mem → Prop) (x3 x4 x5 x6 x7 x8 : Int32) (σ : Mem) : Prop :=
  (∀ v8 : Int32, v8 = x3 + (1 : Int32) → ((x8 = (0 : Int32) → wpJ_X0_readShape_2_147 K B8 v8 x4 x5 σ) ∧ (¬ x8 = (0 : Int32) → (∀ v11 : Int32, v11 = x7 - (48 : Int32) → wp_X0_characterAt v8 σ (fun r13 σ12 => ((¬ x6 = (37 : Int32) → wpJ_X0_readShape_2_136 K B8 v8 x4 x5 v11 σ12) ∧ (x6 = (37 : Int32) → wp_X0_isDigit r13 σ12 (fun r18 σ17 => ((r18 = (0 : Int32) → wpJ_X0_readShape_2_136 K B8 v8 x4 x5 v11 σ17) ∧ (¬ r18 = (0 : Int32) → (∀ v20 : Int32, v20 = ((v11 * (10 : Int32)) + r13) - (48 : Int32) → (∀ v21 : Int32, v21 = v8 + (1 : Int32) → wpJ_X0_readShape_2_136 K B8 v21 x4 x5 v20 σ17))))))))))))

def wpJ_X0_readShape_2_76 (K : Int32 → Mem → Prop) (x3 : Int32) (σ : Mem) : Prop :=
  (∀ σ22 : Mem, σ22 = (st σ 19 5 x3) → K (-1 : Int32) σ22)

def wpJ_X0_readShape_2_66 (K : Int32 → Mem → Prop) (x3 : Int32) (σ : Mem) : Prop :=
  wpJ_X0_readShape_2_76 K x3 σ

def wpJ_X0_readShape_2_51 (K : Int32 → Mem → Prop) (B8 : Int32 × Int32 × Int32 × Mem → Prop) (x3 x4 x5 x6 x7 y0 : Int32) (σ : Mem) : Prop :=
  ((y0 = (0 : Int32) → ((x7 = x6 → wpJ_X0_readShape_2_83 K B8 x3 x4 x5 x6 x7 y0 σ) ∧ (¬ x7 = x6 → wpJ_X0_readShape_2_76 K x3 σ))) ∧ (¬ y0 = (0 : Int32) → wp_X0_isDigit x7 σ (fun r24 σ23 => ((¬ r24 = (0 : Int32) → wpJ_X0_readShape_2_83 K B8 x3 x4 x5 x6 x7 y0 σ23) ∧ (r24 = (0 : Int32) → wpJ_X0_readShape_2_66 K x3 σ23)))))

def wpJ_X0_readShape_2_46 (K : Int32 → Mem → Prop) (B8 : Int32 × Int32 × Int32 × Mem → Prop) (x3 x4 x5 x6 x7 : Int32) (σ : Mem) : Prop :=
  wpJ_X0_readShape_2_51 K B8 x3 x4 x5 x6 x7 (1 : Int32) σ

def wpS_X0_readShape_2_8 (K : Int32 → Mem → Prop) (B8 : Int32 × Int32 × Int32 × Mem → Prop) (x3 x4 x5 : Int32) (σ : Mem) : Prop :=
  (((10 : Int32) ≤ x5 → K x3 σ) ∧ (¬ (10 : Int32) ≤ x5 → (vp_in x5 10 ∧ (∀ v2 : Int32, v2 = sch 2 x5 → wp_X0_characterAt x3 σ (fun r4 σ3 => ((v2 = (35 : Int32) → wpJ_X0_readShape_2_46 K B8 x3 x4 x5 v2 r4 σ3) ∧ (¬ v2 = (35 : Int32) → ((¬ v2 = (37 : Int32) → wpJ_X0_readShape_2_51 K B8 x3 x4 x5 v2 r4 (0 : Int32) σ3) ∧ (v2 = (37 : Int32) → wpJ_X0_readShape_2_46 K B8 x3 x4 x5 v2 r4 σ3)))))))))

def wpF_X0_readShape_2_8 (K : Int32 → Mem → Prop) (B8 : Int32 × Int32 × Int32 × Mem → Prop) (s : Int32 × Int32 × Int32 × Mem) : Prop := wpS_X0_readShape_2_8 K B8 s.1 s.2.1 s.2.2.1 s.2.2.2

def wp_X0_readShape_2 (x2 : Int32) (σ : Mem) (K : Int32 → Mem → Prop) : Prop :=
  ∃ n, wlp (wpF_X0_readShape_2_8 K) n (x2, (0 : Int32), (0 : Int32), σ)

def wpJ_X0_readShape_3_147 (K : Int32 → Mem → Prop) (B8 : Int32 × Int32 × Int32 × Mem → Prop) (x3 x4 x5 : Int32) (σ : Mem) : Prop :=
  (∀ v10 : Int32, v10 = x5 + (1 : Int32) → B8 (x3, x4, v10, σ))

def wpJ_X0_readShape_3_136 (K : Int32 → Mem → Prop) (B8 : Int32 × Int32 × Int32 × Mem → Prop) (x3 x4 x5 x9 : Int32) (σ : Mem) : Prop :=
  wp_X0_keepValue x4 x9 σ (fun σ15 => (∀ v16 : Int32, v16 = x4 + (1 : Int32) → wpJ_X0_readShape_3_147 K B8 x3 v16 x5 σ15))

def wpJ_X0_readShape_3_83 (K : Int32 → Mem → Prop) (B8 : Int32 × Int32 × Int32 × Mem → Prop) (x3 x4 x5 x6 x7 x8 : Int32) (σ : Mem) : Prop :=
  (∀ v8 : Int32, v8 = x3 + (1 : Int32) → ((x8 = (0 : Int32) → wpJ_X0_readShape_3_147 K B8 v8 x4 x5 σ) ∧ (¬ x8 = (0 : Int32) → (∀ v11 : Int32, v11 = x7 - (48 : Int32) → wp_X0_characterAt v8 σ (fun r13 σ12 => ((¬ x6 = (37 : Int32) → wpJ_X0_readShape_3_136 K B8 v8 x4 x5 v11 σ12) ∧ (x6 = (37 : Int32) → wp_X0_isDigit r13 σ12 (fun r18 σ17 => ((r18 = (0 : Int32) → wpJ_X0_readShape_3_136 K B8 v8 x4 x5 v11 σ17) ∧ (¬ r18 = (0 : Int32) → (∀ v20 : Int32, v20 = ((v11 * (10 : Int32)) + r13) - (48 : Int32) → (∀ v21 : Int32, v21 = v8 + (1 : Int32) → wpJ_X0_readShape_3_136 K B8 v21 x4 x5 v20 σ17))))))))))))

def wpJ_X0_readShape_3_76 (K : Int32 → Mem → Prop) (x3 : Int32) (σ : Mem) : Prop :=
  (∀ σ22 : Mem, σ22 = (st σ 19 5 x3) → K (-1 : Int32) σ22)

def wpJ_X0_readShape_3_66 (K : Int32 → Mem → Prop) (x3 : Int32) (σ : Mem) : Prop :=
  wpJ_X0_readShape_3_76 K x3 σ

def wpJ_X0_readShape_3_51 (K : Int32 → Mem → Prop) (B8 : Int32 × Int32 × Int32 × Mem → Prop) (x3 x4 x5 x6 x7 y0 : Int32) (σ : Mem) : Prop :=
  ((y0 = (0 : Int32) → ((x7 = x6 → wpJ_X0_readShape_3_83 K B8 x3 x4 x5 x6 x7 y0 σ) ∧ (¬ x7 = x6 → wpJ_X0_readShape_3_76 K x3 σ))) ∧ (¬ y0 = (0 : Int32) → wp_X0_isDigit x7 σ (fun r24 σ23 => ((¬ r24 = (0 : Int32) → wpJ_X0_readShape_3_83 K B8 x3 x4 x5 x6 x7 y0 σ23) ∧ (r24 = (0 : Int32) → wpJ_X0_readShape_3_66 K x3 σ23)))))

def wpJ_X0_readShape_3_46 (K : Int32 → Mem → Prop) (B8 : Int32 × Int32 × Int32 × Mem → Prop) (x3 x4 x5 x6 x7 : Int32) (σ : Mem) : Prop :=
  wpJ_X0_readShape_3_51 K B8 x3 x4 x5 x6 x7 (1 : Int32) σ

def wpS_X0_readShape_3_8 (K : Int32 → Mem → Prop) (B8 : Int32 × Int32 × Int32 × Mem → Prop) (x3 x4 x5 : Int32) (σ : Mem) : Prop :=
  (((8 : Int32) ≤ x5 → K x3 σ) ∧ (¬ (8 : Int32) ≤ x5 → (vp_in x5 8 ∧ (∀ v2 : Int32, v2 = sch 3 x5 → wp_X0_characterAt x3 σ (fun r4 σ3 => ((v2 = (35 : Int32) → wpJ_X0_readShape_3_46 K B8 x3 x4 x5 v2 r4 σ3) ∧ (¬ v2 = (35 : Int32) → ((¬ v2 = (37 : Int32) → wpJ_X0_readShape_3_51 K B8 x3 x4 x5 v2 r4 (0 : Int32) σ3) ∧ (v2 = (37 : Int32) → wpJ_X0_readShape_3_46 K B8 x3 x4 x5 v2 r4 σ3)))))))))

def wpF_X0_readShape_3_8 (K : Int32 → Mem → Prop) (B8 : Int32 × Int32 × Int32 × Mem → Prop) (s : Int32 × Int32 × Int32 × Mem) : Prop := wpS_X0_readShape_3_8 K B8 s.1 s.2.1 s.2.2.1 s.2.2.2

def wp_X0_readShape_3 (x2 : Int32) (σ : Mem) (K : Int32 → Mem → Prop) : Prop :=
  ∃ n, wlp (wpF_X0_readShape_3_8 K) n (x2, (0 : Int32), (0 : Int32), σ)

def wpJ_X0_readShape_4_147 (K : Int32 → Mem → Prop) (B8 : Int32 × Int32 × Int32 × Mem → Prop) (x3 x4 x5 : Int32) (σ : Mem) : Prop :=
  (∀ v10 : Int32, v10 = x5 + (1 : Int32) → B8 (x3, x4, v10, σ))

def wpJ_X0_readShape_4_136 (K : Int32 → Mem → Prop) (B8 : Int32 × Int32 × Int32 × Mem → Prop) (x3 x4 x5 x9 : Int32) (σ : Mem) : Prop :=
  wp_X0_keepValue x4 x9 σ (fun σ15 => (∀ v16 : Int32, v16 = x4 + (1 : Int32) → wpJ_X0_readShape_4_147 K B8 x3 v16 x5 σ15))

def wpJ_X0_readShape_4_83 (K : Int32 → Mem → Prop) (B8 : Int32 × Int32 × Int32 × Mem → Prop) (x3 x4 x5 x6 x7 x8 : Int32) (σ : Mem) : Prop :=
  (∀ v8 : Int32, v8 = x3 + (1 : Int32) → ((x8 = (0 : Int32) → wpJ_X0_readShape_4_147 K B8 v8 x4 x5 σ) ∧ (¬ x8 = (0 : Int32) → (∀ v11 : Int32, v11 = x7 - (48 : Int32) → wp_X0_characterAt v8 σ (fun r13 σ12 => ((¬ x6 = (37 : Int32) → wpJ_X0_readShape_4_136 K B8 v8 x4 x5 v11 σ12) ∧ (x6 = (37 : Int32) → wp_X0_isDigit r13 σ12 (fun r18 σ17 => ((r18 = (0 : Int32) → wpJ_X0_readShape_4_136 K B8 v8 x4 x5 v11 σ17) ∧ (¬ r18 = (0 : Int32) → (∀ v20 : Int32, v20 = ((v11 * (10 : Int32)) + r13) - (48 : Int32) → (∀ v21 : Int32, v21 = v8 + (1 : Int32) → wpJ_X0_readShape_4_136 K B8 v21 x4 x5 v20 σ17))))))))))))

def wpJ_X0_readShape_4_76 (K : Int32 → Mem → Prop) (x3 : Int32) (σ : Mem) : Prop :=
  (∀ σ22 : Mem, σ22 = (st σ 19 5 x3) → K (-1 : Int32) σ22)

def wpJ_X0_readShape_4_66 (K : Int32 → Mem → Prop) (x3 : Int32) (σ : Mem) : Prop :=
  wpJ_X0_readShape_4_76 K x3 σ

def wpJ_X0_readShape_4_51 (K : Int32 → Mem → Prop) (B8 : Int32 × Int32 × Int32 × Mem → Prop) (x3 x4 x5 x6 x7 y0 : Int32) (σ : Mem) : Prop :=
  ((y0 = (0 : Int32) → ((x7 = x6 → wpJ_X0_readShape_4_83 K B8 x3 x4 x5 x6 x7 y0 σ) ∧ (¬ x7 = x6 → wpJ_X0_readShape_4_76 K x3 σ))) ∧ (¬ y0 = (0 : Int32) → wp_X0_isDigit x7 σ (fun r24 σ23 => ((¬ r24 = (0 : Int32) → wpJ_X0_readShape_4_83 K B8 x3 x4 x5 x6 x7 y0 σ23) ∧ (r24 = (0 : Int32) → wpJ_X0_readShape_4_66 K x3 σ23)))))

def wpJ_X0_readShape_4_46 (K : Int32 → Mem → Prop) (B8 : Int32 × Int32 × Int32 × Mem → Prop) (x3 x4 x5 x6 x7 : Int32) (σ : Mem) : Prop :=
  wpJ_X0_readShape_4_51 K B8 x3 x4 x5 x6 x7 (1 : Int32) σ

def wpS_X0_readShape_4_8 (K : Int32 → Mem → Prop) (B8 : Int32 × Int32 × Int32 × Mem → Prop) (x3 x4 x5 : Int32) (σ : Mem) : Prop :=
  (((11 : Int32) ≤ x5 → K x3 σ) ∧ (¬ (11 : Int32) ≤ x5 → (vp_in x5 11 ∧ (∀ v2 : Int32, v2 = sch 4 x5 → wp_X0_characterAt x3 σ (fun r4 σ3 => ((v2 = (35 : Int32) → wpJ_X0_readShape_4_46 K B8 x3 x4 x5 v2 r4 σ3) ∧ (¬ v2 = (35 : Int32) → ((¬ v2 = (37 : Int32) → wpJ_X0_readShape_4_51 K B8 x3 x4 x5 v2 r4 (0 : Int32) σ3) ∧ (v2 = (37 : Int32) → wpJ_X0_readShape_4_46 K B8 x3 x4 x5 v2 r4 σ3)))))))))

def wpF_X0_readShape_4_8 (K : Int32 → Mem → Prop) (B8 : Int32 × Int32 × Int32 × Mem → Prop) (s : Int32 × Int32 × Int32 × Mem) : Prop := wpS_X0_readShape_4_8 K B8 s.1 s.2.1 s.2.2.1 s.2.2.2

def wp_X0_readShape_4 (x2 : Int32) (σ : Mem) (K : Int32 → Mem → Prop) : Prop :=
  ∃ n, wlp (wpF_X0_readShape_4_8 K) n (x2, (0 : Int32), (0 : Int32), σ)

def wpJ_X0_readShape_5_147 (K : Int32 → Mem → Prop) (B8 : Int32 × Int32 × Int32 × Mem → Prop) (x3 x4 x5 : Int32) (σ : Mem) : Prop :=
  (∀ v10 : Int32, v10 = x5 + (1 : Int32) → B8 (x3, x4, v10, σ))

def wpJ_X0_readShape_5_136 (K : Int32 → Mem → Prop) (B8 : Int32 × Int32 × Int32 × Mem → Prop) (x3 x4 x5 x9 : Int32) (σ : Mem) : Prop :=
  wp_X0_keepValue x4 x9 σ (fun σ15 => (∀ v16 : Int32, v16 = x4 + (1 : Int32) → wpJ_X0_readShape_5_147 K B8 x3 v16 x5 σ15))

def wpJ_X0_readShape_5_83 (K : Int32 → Mem → Prop) (B8 : Int32 × Int32 × Int32 × Mem → Prop) (x3 x4 x5 x6 x7 x8 : Int32) (σ : Mem) : Prop :=
  (∀ v8 : Int32, v8 = x3 + (1 : Int32) → ((x8 = (0 : Int32) → wpJ_X0_readShape_5_147 K B8 v8 x4 x5 σ) ∧ (¬ x8 = (0 : Int32) → (∀ v11 : Int32, v11 = x7 - (48 : Int32) → wp_X0_characterAt v8 σ (fun r13 σ12 => ((¬ x6 = (37 : Int32) → wpJ_X0_readShape_5_136 K B8 v8 x4 x5 v11 σ12) ∧ (x6 = (37 : Int32) → wp_X0_isDigit r13 σ12 (fun r18 σ17 => ((r18 = (0 : Int32) → wpJ_X0_readShape_5_136 K B8 v8 x4 x5 v11 σ17) ∧ (¬ r18 = (0 : Int32) → (∀ v20 : Int32, v20 = ((v11 * (10 : Int32)) + r13) - (48 : Int32) → (∀ v21 : Int32, v21 = v8 + (1 : Int32) → wpJ_X0_readShape_5_136 K B8 v21 x4 x5 v20 σ17))))))))))))

def wpJ_X0_readShape_5_76 (K : Int32 → Mem → Prop) (x3 : Int32) (σ : Mem) : Prop :=
  (∀ σ22 : Mem, σ22 = (st σ 19 5 x3) → K (-1 : Int32) σ22)

def wpJ_X0_readShape_5_66 (K : Int32 → Mem → Prop) (x3 : Int32) (σ : Mem) : Prop :=
  wpJ_X0_readShape_5_76 K x3 σ

def wpJ_X0_readShape_5_51 (K : Int32 → Mem → Prop) (B8 : Int32 × Int32 × Int32 × Mem → Prop) (x3 x4 x5 x6 x7 y0 : Int32) (σ : Mem) : Prop :=
  ((y0 = (0 : Int32) → ((x7 = x6 → wpJ_X0_readShape_5_83 K B8 x3 x4 x5 x6 x7 y0 σ) ∧ (¬ x7 = x6 → wpJ_X0_readShape_5_76 K x3 σ))) ∧ (¬ y0 = (0 : Int32) → wp_X0_isDigit x7 σ (fun r24 σ23 => ((¬ r24 = (0 : Int32) → wpJ_X0_readShape_5_83 K B8 x3 x4 x5 x6 x7 y0 σ23) ∧ (r24 = (0 : Int32) → wpJ_X0_readShape_5_66 K x3 σ23)))))

def wpJ_X0_readShape_5_46 (K : Int32 → Mem → Prop) (B8 : Int32 × Int32 × Int32 × Mem → Prop) (x3 x4 x5 x6 x7 : Int32) (σ : Mem) : Prop :=
  wpJ_X0_readShape_5_51 K B8 x3 x4 x5 x6 x7 (1 : Int32) σ

def wpS_X0_readShape_5_8 (K : Int32 → Mem → Prop) (B8 : Int32 × Int32 × Int32 × Mem → Prop) (x3 x4 x5 : Int32) (σ : Mem) : Prop :=
  (((6 : Int32) ≤ x5 → K x3 σ) ∧ (¬ (6 : Int32) ≤ x5 → (vp_in x5 6 ∧ (∀ v2 : Int32, v2 = sch 5 x5 → wp_X0_characterAt x3 σ (fun r4 σ3 => ((v2 = (35 : Int32) → wpJ_X0_readShape_5_46 K B8 x3 x4 x5 v2 r4 σ3) ∧ (¬ v2 = (35 : Int32) → ((¬ v2 = (37 : Int32) → wpJ_X0_readShape_5_51 K B8 x3 x4 x5 v2 r4 (0 : Int32) σ3) ∧ (v2 = (37 : Int32) → wpJ_X0_readShape_5_46 K B8 x3 x4 x5 v2 r4 σ3)))))))))

def wpF_X0_readShape_5_8 (K : Int32 → Mem → Prop) (B8 : Int32 × Int32 × Int32 × Mem → Prop) (s : Int32 × Int32 × Int32 × Mem) : Prop := wpS_X0_readShape_5_8 K B8 s.1 s.2.1 s.2.2.1 s.2.2.2

def wp_X0_readShape_5 (x2 : Int32) (σ : Mem) (K : Int32 → Mem → Prop) : Prop :=
  ∃ n, wlp (wpF_X0_readShape_5_8 K) n (x2, (0 : Int32), (0 : Int32), σ)

def wpJ_X0_readShape_6_147 (K : Int32 → Mem → Prop) (B8 : Int32 × Int32 × Int32 × Mem → Prop) (x3 x4 x5 : Int32) (σ : Mem) : Prop :=
  (∀ v10 : Int32, v10 = x5 + (1 : Int32) → B8 (x3, x4, v10, σ))

def wpJ_X0_readShape_6_136 (K : Int32 → Mem → Prop) (B8 : Int32 × Int32 × Int32 × Mem → Prop) (x3 x4 x5 x9 : Int32) (σ : Mem) : Prop :=
  wp_X0_keepValue x4 x9 σ (fun σ15 => (∀ v16 : Int32, v16 = x4 + (1 : Int32) → wpJ_X0_readShape_6_147 K B8 x3 v16 x5 σ15))

def wpJ_X0_readShape_6_83 (K : Int32 → Mem → Prop) (B8 : Int32 × Int32 × Int32 × Mem → Prop) (x3 x4 x5 x6 x7 x8 : Int32) (σ : Mem) : Prop :=
  (∀ v8 : Int32, v8 = x3 + (1 : Int32) → ((x8 = (0 : Int32) → wpJ_X0_readShape_6_147 K B8 v8 x4 x5 σ) ∧ (¬ x8 = (0 : Int32) → (∀ v11 : Int32, v11 = x7 - (48 : Int32) → wp_X0_characterAt v8 σ (fun r13 σ12 => ((¬ x6 = (37 : Int32) → wpJ_X0_readShape_6_136 K B8 v8 x4 x5 v11 σ12) ∧ (x6 = (37 : Int32) → wp_X0_isDigit r13 σ12 (fun r18 σ17 => ((r18 = (0 : Int32) → wpJ_X0_readShape_6_136 K B8 v8 x4 x5 v11 σ17) ∧ (¬ r18 = (0 : Int32) → (∀ v20 : Int32, v20 = ((v11 * (10 : Int32)) + r13) - (48 : Int32) → (∀ v21 : Int32, v21 = v8 + (1 : Int32) → wpJ_X0_readShape_6_136 K B8 v21 x4 x5 v20 σ17))))))))))))

def wpJ_X0_readShape_6_76 (K : Int32 → Mem → Prop) (x3 : Int32) (σ : Mem) : Prop :=
  (∀ σ22 : Mem, σ22 = (st σ 19 5 x3) → K (-1 : Int32) σ22)

def wpJ_X0_readShape_6_66 (K : Int32 → Mem → Prop) (x3 : Int32) (σ : Mem) : Prop :=
  wpJ_X0_readShape_6_76 K x3 σ

def wpJ_X0_readShape_6_51 (K : Int32 → Mem → Prop) (B8 : Int32 × Int32 × Int32 × Mem → Prop) (x3 x4 x5 x6 x7 y0 : Int32) (σ : Mem) : Prop :=
  ((y0 = (0 : Int32) → ((x7 = x6 → wpJ_X0_readShape_6_83 K B8 x3 x4 x5 x6 x7 y0 σ) ∧ (¬ x7 = x6 → wpJ_X0_readShape_6_76 K x3 σ))) ∧ (¬ y0 = (0 : Int32) → wp_X0_isDigit x7 σ (fun r24 σ23 => ((¬ r24 = (0 : Int32) → wpJ_X0_readShape_6_83 K B8 x3 x4 x5 x6 x7 y0 σ23) ∧ (r24 = (0 : Int32) → wpJ_X0_readShape_6_66 K x3 σ23)))))

def wpJ_X0_readShape_6_46 (K : Int32 → Mem → Prop) (B8 : Int32 × Int32 × Int32 × Mem → Prop) (x3 x4 x5 x6 x7 : Int32) (σ : Mem) : Prop :=
  wpJ_X0_readShape_6_51 K B8 x3 x4 x5 x6 x7 (1 : Int32) σ

def wpS_X0_readShape_6_8 (K : Int32 → Mem → Prop) (B8 : Int32 × Int32 × Int32 × Mem → Prop) (x3 x4 x5 : Int32) (σ : Mem) : Prop :=
  (((6 : Int32) ≤ x5 → K x3 σ) ∧ (¬ (6 : Int32) ≤ x5 → (vp_in x5 6 ∧ (∀ v2 : Int32, v2 = sch 6 x5 → wp_X0_characterAt x3 σ (fun r4 σ3 => ((v2 = (35 : Int32) → wpJ_X0_readShape_6_46 K B8 x3 x4 x5 v2 r4 σ3) ∧ (¬ v2 = (35 : Int32) → ((¬ v2 = (37 : Int32) → wpJ_X0_readShape_6_51 K B8 x3 x4 x5 v2 r4 (0 : Int32) σ3) ∧ (v2 = (37 : Int32) → wpJ_X0_readShape_6_46 K B8 x3 x4 x5 v2 r4 σ3)))))))))

def wpF_X0_readShape_6_8 (K : Int32 → Mem → Prop) (B8 : Int32 × Int32 × Int32 × Mem → Prop) (s : Int32 × Int32 × Int32 × Mem) : Prop := wpS_X0_readShape_6_8 K B8 s.1 s.2.1 s.2.2.1 s.2.2.2

def wp_X0_readShape_6 (x2 : Int32) (σ : Mem) (K : Int32 → Mem → Prop) : Prop :=
  ∃ n, wlp (wpF_X0_readShape_6_8 K) n (x2, (0 : Int32), (0 : Int32), σ)

def wpJ_X0_readShape_7_147 (K : Int32 → Mem → Prop) (B8 : Int32 × Int32 × Int32 × Mem → Prop) (x3 x4 x5 : Int32) (σ : Mem) : Prop :=
  (∀ v10 : Int32, v10 = x5 + (1 : Int32) → B8 (x3, x4, v10, σ))

def wpJ_X0_readShape_7_136 (K : Int32 → Mem → Prop) (B8 : Int32 × Int32 × Int32 × Mem → Prop) (x3 x4 x5 x9 : Int32) (σ : Mem) : Prop :=
  wp_X0_keepValue x4 x9 σ (fun σ15 => (∀ v16 : Int32, v16 = x4 + (1 : Int32) → wpJ_X0_readShape_7_147 K B8 x3 v16 x5 σ15))

def wpJ_X0_readShape_7_83 (K : Int32 → Mem → Prop) (B8 : Int32 × Int32 × Int32 × Mem → Prop) (x3 x4 x5 x6 x7 x8 : Int32) (σ : Mem) : Prop :=
  (∀ v8 : Int32, v8 = x3 + (1 : Int32) → ((x8 = (0 : Int32) → wpJ_X0_readShape_7_147 K B8 v8 x4 x5 σ) ∧ (¬ x8 = (0 : Int32) → (∀ v11 : Int32, v11 = x7 - (48 : Int32) → wp_X0_characterAt v8 σ (fun r13 σ12 => ((¬ x6 = (37 : Int32) → wpJ_X0_readShape_7_136 K B8 v8 x4 x5 v11 σ12) ∧ (x6 = (37 : Int32) → wp_X0_isDigit r13 σ12 (fun r18 σ17 => ((r18 = (0 : Int32) → wpJ_X0_readShape_7_136 K B8 v8 x4 x5 v11 σ17) ∧ (¬ r18 = (0 : Int32) → (∀ v20 : Int32, v20 = ((v11 * (10 : Int32)) + r13) - (48 : Int32) → (∀ v21 : Int32, v21 = v8 + (1 : Int32) → wpJ_X0_readShape_7_136 K B8 v21 x4 x5 v20 σ17))))))))))))

def wpJ_X0_readShape_7_76 (K : Int32 → Mem → Prop) (x3 : Int32) (σ : Mem) : Prop :=
  (∀ σ22 : Mem, σ22 = (st σ 19 5 x3) → K (-1 : Int32) σ22)

def wpJ_X0_readShape_7_66 (K : Int32 → Mem → Prop) (x3 : Int32) (σ : Mem) : Prop :=
  wpJ_X0_readShape_7_76 K x3 σ

def wpJ_X0_readShape_7_51 (K : Int32 → Mem → Prop) (B8 : Int32 × Int32 × Int32 × Mem → Prop) (x3 x4 x5 x6 x7 y0 : Int32) (σ : Mem) : Prop :=
  ((y0 = (0 : Int32) → ((x7 = x6 → wpJ_X0_readShape_7_83 K B8 x3 x4 x5 x6 x7 y0 σ) ∧ (¬ x7 = x6 → wpJ_X0_readShape_7_76 K x3 σ))) ∧ (¬ y0 = (0 : Int32) → wp_X0_isDigit x7 σ (fun r24 σ23 => ((¬ r24 = (0 : Int32) → wpJ_X0_readShape_7_83 K B8 x3 x4 x5 x6 x7 y0 σ23) ∧ (r24 = (0 : Int32) → wpJ_X0_readShape_7_66 K x3 σ23)))))

def wpJ_X0_readShape_7_46 (K : Int32 → Mem → Prop) (B8 : Int32 × Int32 × Int32 × Mem → Prop) (x3 x4 x5 x6 x7 : Int32) (σ : Mem) : Prop :=
  wpJ_X0_readShape_7_51 K B8 x3 x4 x5 x6 x7 (1 : Int32) σ

def wpS_X0_readShape_7_8 (K : Int32 → Mem → Prop) (B8 : Int32 × Int32 × Int32 × Mem → Prop) (x3 x4 x5 : Int32) (σ : Mem) : Prop :=
  (((6 : Int32) ≤ x5 → K x3 σ) ∧ (¬ (6 : Int32) ≤ x5 → (vp_in x5 6 ∧ (∀ v2 : Int32, v2 = sch 7 x5 → wp_X0_characterAt x3 σ (fun r4 σ3 => ((v2 = (35 : Int32) → wpJ_X0_readShape_7_46 K B8 x3 x4 x5 v2 r4 σ3) ∧ (¬ v2 = (35 : Int32) → ((¬ v2 = (37 : Int32) → wpJ_X0_readShape_7_51 K B8 x3 x4 x5 v2 r4 (0 : Int32) σ3) ∧ (v2 = (37 : Int32) → wpJ_X0_readShape_7_46 K B8 x3 x4 x5 v2 r4 σ3)))))))))

def wpF_X0_readShape_7_8 (K : Int32 → Mem → Prop) (B8 : Int32 × Int32 × Int32 × Mem → Prop) (s : Int32 × Int32 × Int32 × Mem) : Prop := wpS_X0_readShape_7_8 K B8 s.1 s.2.1 s.2.2.1 s.2.2.2

def wp_X0_readShape_7 (x2 : Int32) (σ : Mem) (K : Int32 → Mem → Prop) : Prop :=
  ∃ n, wlp (wpF_X0_readShape_7_8 K) n (x2, (0 : Int32), (0 : Int32), σ)

def wpJ_X0_readCommand_71 (K : Int32 → Mem → Prop) (x2 : Int32) (σ : Mem) : Prop :=
  (∀ σ2 : Mem, σ2 = (st σ 19 5 x2) → K (-1 : Int32) σ2)

def wpJ_X0_readCommand_27 (K : Int32 → Mem → Prop) (x3 x4 : Int32) (σ : Mem) : Prop :=
  (((σ 19 4) < (0 : Int32) → K x4 σ) ∧ (¬ (σ 19 4) < (0 : Int32) → (((9 : Int32) ≤ (σ 19 4) → K x4 σ) ∧ (¬ (9 : Int32) ≤ (σ 19 4) → (vp_in (σ 19 4) 9 ∧ (∀ σ12 : Mem, σ12 = (st σ 21 (σ 19 4).toNatClampNeg x3) → K x4 σ12))))))

def wpJ_X0_readCommand_19 (K : Int32 → Mem → Prop) (B4 : Int32 × Int32 × Int32 × Mem → Prop) (x1 x2 x3 y0 : Int32) (σ : Mem) : Prop :=
  ((y0 = (-1 : Int32) → (∀ v8 : Int32, v8 = (if x2 < (σ 19 5) then (σ 19 5) else x2) → (∀ v9 : Int32, v9 = x3 + (1 : Int32) → B4 (x1, v8, v9, σ)))) ∧ (¬ y0 = (-1 : Int32) → wpJ_X0_readCommand_27 K x3 y0 σ))

def wpS_X0_readCommand_4 (K : Int32 → Mem → Prop) (B4 : Int32 × Int32 × Int32 × Mem → Prop) (x1 x2 x3 : Int32) (σ : Mem) : Prop :=
  (((8 : Int32) ≤ x3 → wpJ_X0_readCommand_71 K x2 σ) ∧ (¬ (8 : Int32) ≤ x3 → wp_X0_shapeOf x3 σ (fun r4 σ3 => (r4 < 8 ∧ (r4 = 0 → wp_X0_readShape_0 x1 σ3 (fun r6 σ5 => wpJ_X0_readCommand_19 K B4 x1 x2 x3 r6 σ5)) ∧ (r4 = 1 → wp_X0_readShape_1 x1 σ3 (fun r14 σ13 => wpJ_X0_readCommand_19 K B4 x1 x2 x3 r14 σ13)) ∧ (r4 = 2 → wp_X0_readShape_2 x1 σ3 (fun r16 σ15 => wpJ_X0_readCommand_19 K B4 x1 x2 x3 r16 σ15)) ∧ (r4 = 3 → wp_X0_readShape_3 x1 σ3 (fun r18 σ17 => wpJ_X0_readCommand_19 K B4 x1 x2 x3 r18 σ17)) ∧ (r4 = 4 → wp_X0_readShape_4 x1 σ3 (fun r20 σ19 => wpJ_X0_readCommand_19 K B4 x1 x2 x3 r20 σ19)) ∧ (r4 = 5 → wp_X0_readShape_5 x1 σ3 (fun r22 σ21 => wpJ_X0_readCommand_19 K B4 x1 x2 x3 r22 σ21)) ∧ (r4 = 6 → wp_X0_readShape_6 x1 σ3 (fun r24 σ23 => wpJ_X0_readCommand_19 K B4 x1 x2 x3 r24 σ23)) ∧ (r4 = 7 → wp_X0_readShape_7 x1 σ3 (fun r26 σ25 => wpJ_X0_readCommand_19 K B4 x1 x2 x3 r26 σ25))))))

def wpF_X0_readCommand_4 (K : Int32 → Mem → Prop) (B4 : Int32 × Int32 × Int32 × Mem → Prop) (s : Int32 × Int32 × Int32 × Mem) : Prop := wpS_X0_readCommand_4 K B4 s.1 s.2.1 s.2.2.1 s.2.2.2

def wp_X0_readCommand (x1 : Int32) (σ : Mem) (K : Int32 → Mem → Prop) : Prop :=
  ∃ n, wlp (wpF_X0_readCommand_4 K) n (x1, x1, (0 : Int32), σ)

def wpJ_X0_parse_72 (K : Int32 → Mem → Prop) (x1 : Int32) (σ : Mem) : Prop :=
  (∀ σ3 : Mem, σ3 = (st σ 19 5 x1) → K (0 : Int32) σ3)

def wpJ_X0_parse_58 (K : Int32 → Mem → Prop) (x2 : Int32) (σ : Mem) : Prop :=
  (∀ σ13 : Mem, σ13 = (st σ 19 5 x2) → K (0 : Int32) σ13)

def wpS_X0_parse_7 (K : Int32 → Mem → Prop) (B7 : Int32 × Mem → Prop) (x1 : Int32) (σ : Mem) : Prop :=
  (((9 : Int32) ≤ (σ 19 4) → wpJ_X0_parse_72 K x1 σ) ∧ (¬ (9 : Int32) ≤ (σ 19 4) → wp_X0_readCommand x1 σ (fun r5 σ4 => ((¬ r5 = (-1 : Int32) → (∀ σ7 : Mem, σ7 = (st σ4 19 4 ((σ4 19 4) + (1 : Int32))) → wp_X0_characterAt r5 σ7 (fun r9 σ8 => ((¬ r9 = (-1 : Int32) → ((r9 = (59 : Int32) → (∀ v12 : Int32, v12 = r5 + (1 : Int32) → B7 (v12, σ8))) ∧ (¬ r9 = (59 : Int32) → wpJ_X0_parse_58 K r5 σ8))) ∧ (r9 = (-1 : Int32) → K (1 : Int32) σ8))))) ∧ (r5 = (-1 : Int32) → K (0 : Int32) σ4)))))

def wpF_X0_parse_7 (K : Int32 → Mem → Prop) (B7 : Int32 × Mem → Prop) (s : Int32 × Mem) : Prop := wpS_X0_parse_7 K B7 s.1 s.2

def wp_X0_parse (σ : Mem) (K : Int32 → Mem → Prop) : Prop :=
  (∀ σ1 : Mem, σ1 = (st σ 19 4 (0 : Int32)) → ∃ n, wlp (wpF_X0_parse_7 K) n ((0 : Int32), σ1))

def wpS_X5_isWord_8_14 (K : Int32 → Mem → Prop) (B14 : Int32 × Mem → Prop) (x3 : Int32) (σ : Mem) : Prop :=
  (((2 : Int32) ≤ x3 → K (1 : Int32) σ) ∧ (¬ (2 : Int32) ≤ x3 → (vp_in x3 2 ∧ wp_X5_skips (sch 8 x3) σ (fun r4 σ3 => ((¬ r4 = (0 : Int32) → (∀ v6 : Int32, v6 = x3 + (1 : Int32) → B14 (v6, σ3))) ∧ (r4 = (0 : Int32) → K (0 : Int32) σ3))))))

def wpF_X5_isWord_8_14 (K : Int32 → Mem → Prop) (B14 : Int32 × Mem → Prop) (s : Int32 × Mem) : Prop := wpS_X5_isWord_8_14 K B14 s.1 s.2

def wp_X5_isWord_8 (x1 : Int32) (σ : Mem) (K : Int32 → Mem → Prop) : Prop :=
  (vp_in ((4 : Int32) * (σ 25 20)) 124 ∧ (∀ σ1 : Mem, σ1 = (st σ 33 ((4 : Int32) * (σ 25 20)).toNatClampNeg x1) → ∃ n, wlp (wpF_X5_isWord_8_14 K) n ((0 : Int32), σ1)))

def wpS_X5_isWord_9_14 (K : Int32 → Mem → Prop) (B14 : Int32 × Mem → Prop) (x3 : Int32) (σ : Mem) : Prop :=
  (((3 : Int32) ≤ x3 → K (1 : Int32) σ) ∧ (¬ (3 : Int32) ≤ x3 → (vp_in x3 3 ∧ wp_X5_skips (sch 9 x3) σ (fun r4 σ3 => ((¬ r4 = (0 : Int32) → (∀ v6 : Int32, v6 = x3 + (1 : Int32) → B14 (v6, σ3))) ∧ (r4 = (0 : Int32) → K (0 : Int32) σ3))))))

def wpF_X5_isWord_9_14 (K : Int32 → Mem → Prop) (B14 : Int32 × Mem → Prop) (s : Int32 × Mem) : Prop := wpS_X5_isWord_9_14 K B14 s.1 s.2

def wp_X5_isWord_9 (x1 : Int32) (σ : Mem) (K : Int32 → Mem → Prop) : Prop :=
  (vp_in ((4 : Int32) * (σ 25 20)) 124 ∧ (∀ σ1 : Mem, σ1 = (st σ 33 ((4 : Int32) * (σ 25 20)).toNatClampNeg x1) → ∃ n, wlp (wpF_X5_isWord_9_14 K) n ((0 : Int32), σ1)))

def wpS_X5_isWord_10_14 (K : Int32 → Mem → Prop) (B14 : Int32 × Mem → Prop) (x3 : Int32) (σ : Mem) : Prop :=
  (((2 : Int32) ≤ x3 → K (1 : Int32) σ) ∧ (¬ (2 : Int32) ≤ x3 → (vp_in x3 2 ∧ wp_X5_skips (sch 10 x3) σ (fun r4 σ3 => ((¬ r4 = (0 : Int32) → (∀ v6 : Int32, v6 = x3 + (1 : Int32) → B14 (v6, σ3))) ∧ (r4 = (0 : Int32) → K (0 : Int32) σ3))))))

def wpF_X5_isWord_10_14 (K : Int32 → Mem → Prop) (B14 : Int32 × Mem → Prop) (s : Int32 × Mem) : Prop := wpS_X5_isWord_10_14 K B14 s.1 s.2

def wp_X5_isWord_10 (x1 : Int32) (σ : Mem) (K : Int32 → Mem → Prop) : Prop :=
  (vp_in ((4 : Int32) * (σ 25 20)) 124 ∧ (∀ σ1 : Mem, σ1 = (st σ 33 ((4 : Int32) * (σ 25 20)).toNatClampNeg x1) → ∃ n, wlp (wpF_X5_isWord_10_14 K) n ((0 : Int32), σ1)))

def wpS_X5_isWord_11_14 (K : Int32 → Mem → Prop) (B14 : Int32 × Mem → Prop) (x3 : Int32) (σ : Mem) : Prop :=
  (((2 : Int32) ≤ x3 → K (1 : Int32) σ) ∧ (¬ (2 : Int32) ≤ x3 → (vp_in x3 2 ∧ wp_X5_skips (sch 11 x3) σ (fun r4 σ3 => ((¬ r4 = (0 : Int32) → (∀ v6 : Int32, v6 = x3 + (1 : Int32) → B14 (v6, σ3))) ∧ (r4 = (0 : Int32) → K (0 : Int32) σ3))))))

def wpF_X5_isWord_11_14 (K : Int32 → Mem → Prop) (B14 : Int32 × Mem → Prop) (s : Int32 × Mem) : Prop := wpS_X5_isWord_11_14 K B14 s.1 s.2

def wp_X5_isWord_11 (x1 : Int32) (σ : Mem) (K : Int32 → Mem → Prop) : Prop :=
  (vp_in ((4 : Int32) * (σ 25 20)) 124 ∧ (∀ σ1 : Mem, σ1 = (st σ 33 ((4 : Int32) * (σ 25 20)).toNatClampNeg x1) → ∃ n, wlp (wpF_X5_isWord_11_14 K) n ((0 : Int32), σ1)))

def wpS_X5_isWord_12_14 (K : Int32 → Mem → Prop) (B14 : Int32 × Mem → Prop) (x3 : Int32) (σ : Mem) : Prop :=
  (((2 : Int32) ≤ x3 → K (1 : Int32) σ) ∧ (¬ (2 : Int32) ≤ x3 → (vp_in x3 2 ∧ wp_X5_skips (sch 12 x3) σ (fun r4 σ3 => ((¬ r4 = (0 : Int32) → (∀ v6 : Int32, v6 = x3 + (1 : Int32) → B14 (v6, σ3))) ∧ (r4 = (0 : Int32) → K (0 : Int32) σ3))))))

def wpF_X5_isWord_12_14 (K : Int32 → Mem → Prop) (B14 : Int32 × Mem → Prop) (s : Int32 × Mem) : Prop := wpS_X5_isWord_12_14 K B14 s.1 s.2

def wp_X5_isWord_12 (x1 : Int32) (σ : Mem) (K : Int32 → Mem → Prop) : Prop :=
  (vp_in ((4 : Int32) * (σ 25 20)) 124 ∧ (∀ σ1 : Mem, σ1 = (st σ 33 ((4 : Int32) * (σ 25 20)).toNatClampNeg x1) → ∃ n, wlp (wpF_X5_isWord_12_14 K) n ((0 : Int32), σ1)))

def wpS_X5_isWord_13_14 (K : Int32 → Mem → Prop) (B14 : Int32 × Mem → Prop) (x3 : Int32) (σ : Mem) : Prop :=
  (((3 : Int32) ≤ x3 → K (1 : Int32) σ) ∧ (¬ (3 : Int32) ≤ x3 → (vp_in x3 3 ∧ wp_X5_skips (sch 13 x3) σ (fun r4 σ3 => ((¬ r4 = (0 : Int32) → (∀ v6 : Int32, v6 = x3 + (1 : Int32) → B14 (v6, σ3))) ∧ (r4 = (0 : Int32) → K (0 : Int32) σ3))))))

def wpF_X5_isWord_13_14 (K : Int32 → Mem → Prop) (B14 : Int32 × Mem → Prop) (s : Int32 × Mem) : Prop := wpS_X5_isWord_13_14 K B14 s.1 s.2

def wp_X5_isWord_13 (x1 : Int32) (σ : Mem) (K : Int32 → Mem → Prop) : Prop :=
  (vp_in ((4 : Int32) * (σ 25 20)) 124 ∧ (∀ σ1 : Mem, σ1 = (st σ 33 ((4 : Int32) * (σ 25 20)).toNatClampNeg x1) → ∃ n, wlp (wpF_X5_isWord_13_14 K) n ((0 : Int32), σ1)))

def wpS_X5_isWord_14_14 (K : Int32 → Mem → Prop) (B14 : Int32 × Mem → Prop) (x3 : Int32) (σ : Mem) : Prop :=
  (((4 : Int32) ≤ x3 → K (1 : Int32) σ) ∧ (¬ (4 : Int32) ≤ x3 → (vp_in x3 4 ∧ wp_X5_skips (sch 14 x3) σ (fun r4 σ3 => ((¬ r4 = (0 : Int32) → (∀ v6 : Int32, v6 = x3 + (1 : Int32) → B14 (v6, σ3))) ∧ (r4 = (0 : Int32) → K (0 : Int32) σ3))))))

def wpF_X5_isWord_14_14 (K : Int32 → Mem → Prop) (B14 : Int32 × Mem → Prop) (s : Int32 × Mem) : Prop := wpS_X5_isWord_14_14 K B14 s.1 s.2

def wp_X5_isWord_14 (x1 : Int32) (σ : Mem) (K : Int32 → Mem → Prop) : Prop :=
  (vp_in ((4 : Int32) * (σ 25 20)) 124 ∧ (∀ σ1 : Mem, σ1 = (st σ 33 ((4 : Int32) * (σ 25 20)).toNatClampNeg x1) → ∃ n, wlp (wpF_X5_isWord_14_14 K) n ((0 : Int32), σ1)))

def wpS_X5_isWord_15_14 (K : Int32 → Mem → Prop) (B14 : Int32 × Mem → Prop) (x3 : Int32) (σ : Mem) : Prop :=
  (((3 : Int32) ≤ x3 → K (1 : Int32) σ) ∧ (¬ (3 : Int32) ≤ x3 → (vp_in x3 3 ∧ wp_X5_skips (sch 15 x3) σ (fun r4 σ3 => ((¬ r4 = (0 : Int32) → (∀ v6 : Int32, v6 = x3 + (1 : Int32) → B14 (v6, σ3))) ∧ (r4 = (0 : Int32) → K (0 : Int32) σ3))))))

def wpF_X5_isWord_15_14 (K : Int32 → Mem → Prop) (B14 : Int32 × Mem → Prop) (s : Int32 × Mem) : Prop := wpS_X5_isWord_15_14 K B14 s.1 s.2

def wp_X5_isWord_15 (x1 : Int32) (σ : Mem) (K : Int32 → Mem → Prop) : Prop :=
  (vp_in ((4 : Int32) * (σ 25 20)) 124 ∧ (∀ σ1 : Mem, σ1 = (st σ 33 ((4 : Int32) * (σ 25 20)).toNatClampNeg x1) → ∃ n, wlp (wpF_X5_isWord_15_14 K) n ((0 : Int32), σ1)))

def wp_X5_withG (x1 : Int32) (σ : Mem) (K : Int32 → Mem → Prop) : Prop :=
  wp_X5_skips (97 : Int32) σ (fun r2 σ1 => ((r2 = (0 : Int32) → wp_X5_skips (117 : Int32) σ1 (fun r5 σ4 => ((r5 = (0 : Int32) → K (0 : Int32) σ4) ∧ (¬ r5 = (0 : Int32) → wp_X5_isWord_9 (1 : Int32) σ4 (fun r8 σ7 => ((r8 = (0 : Int32) → K (0 : Int32) σ7) ∧ (¬ r8 = (0 : Int32) → wp_X5_figures (32 : Int32) x1 (1 : Int32) σ7 (fun r11 σ10 => ((r11 = (0 : Int32) → K (0 : Int32) σ10) ∧ (¬ r11 = (0 : Int32) → K (1 : Int32) σ10)))))))))) ∧ (¬ r2 = (0 : Int32) → wp_X5_isWord_8 (0 : Int32) σ1 (fun r14 σ13 => ((r14 = (0 : Int32) → K (0 : Int32) σ13) ∧ (¬ r14 = (0 : Int32) → wp_X5_figures (32 : Int32) x1 (1 : Int32) σ13 (fun r17 σ16 => ((r17 = (0 : Int32) → K (0 : Int32) σ16) ∧ (¬ r17 = (0 : Int32) → K (1 : Int32) σ16)))))))))

def wp_X5_withF (x1 : Int32) (σ : Mem) (K : Int32 → Mem → Prop) : Prop :=
  wp_X5_skips (114 : Int32) σ (fun r2 σ1 => ((r2 = (0 : Int32) → wp_X5_skips (105 : Int32) σ1 (fun r5 σ4 => ((r5 = (0 : Int32) → wp_X5_skips (111 : Int32) σ4 (fun r8 σ7 => ((r8 = (0 : Int32) → K (0 : Int32) σ7) ∧ (¬ r8 = (0 : Int32) → wp_X5_isWord_12 (6 : Int32) σ7 (fun r11 σ10 => ((r11 = (0 : Int32) → K (0 : Int32) σ10) ∧ (¬ r11 = (0 : Int32) → wp_X5_figures (32 : Int32) x1 (2 : Int32) σ10 (fun r14 σ13 => ((r14 = (0 : Int32) → K (0 : Int32) σ13) ∧ (¬ r14 = (0 : Int32) → K (1 : Int32) σ13)))))))))) ∧ (¬ r5 = (0 : Int32) → wp_X5_isWord_11 (5 : Int32) σ4 (fun r17 σ16 => ((r17 = (0 : Int32) → K (0 : Int32) σ16) ∧ (¬ r17 = (0 : Int32) → wp_X5_figures (32 : Int32) x1 (2 : Int32) σ16 (fun r20 σ19 => ((r20 = (0 : Int32) → K (0 : Int32) σ19) ∧ (¬ r20 = (0 : Int32) → K (1 : Int32) σ19)))))))))) ∧ (¬ r2 = (0 : Int32) → wp_X5_isWord_10 (3 : Int32) σ1 (fun r23 σ22 => ((r23 = (0 : Int32) → K (0 : Int32) σ22) ∧ (¬ r23 = (0 : Int32) → wp_X5_figures (32 : Int32) x1 (1 : Int32) σ22 (fun r26 σ25 => ((r26 = (0 : Int32) → K (0 : Int32) σ25) ∧ (¬ r26 = (0 : Int32) → wp_X5_figures (64 : Int32) (x1 + (1 : Int32)) (2 : Int32) σ25 (fun r29 σ28 => ((r29 = (0 : Int32) → K (0 : Int32) σ28) ∧ (¬ r29 = (0 : Int32) → K (1 : Int32) σ28))))))))))))

def wp_X5_commandHere (σ : Mem) (K : Int32 → Mem → Prop) : Prop :=
  (∀ v1 : Int32, v1 = ((4 : Int32) * (σ 25 20)) + (1 : Int32) → wp_X5_skips (103 : Int32) σ (fun r3 σ2 => ((r3 = (0 : Int32) → wp_X5_skips (102 : Int32) σ2 (fun r6 σ5 => ((r6 = (0 : Int32) → wp_X5_skips (100 : Int32) σ5 (fun r9 σ8 => ((r9 = (0 : Int32) → wp_X5_skips (108 : Int32) σ8 (fun r12 σ11 => ((r12 = (0 : Int32) → wp_X5_skips (112 : Int32) σ11 (fun r15 σ14 => ((r15 = (0 : Int32) → K (0 : Int32) σ14) ∧ (¬ r15 = (0 : Int32) → wp_X5_isWord_15 (7 : Int32) σ14 (fun r18 σ17 => ((r18 = (0 : Int32) → K (0 : Int32) σ17) ∧ (¬ r18 = (0 : Int32) → wp_X5_figures (32 : Int32) v1 (2 : Int32) σ17 (fun r21 σ20 => ((r21 = (0 : Int32) → K (0 : Int32) σ20) ∧ (¬ r21 = (0 : Int32) → K (1 : Int32) σ20)))))))))) ∧ (¬ r12 = (0 : Int32) → wp_X5_isWord_14 (4 : Int32) σ11 (fun r24 σ23 => ((r24 = (0 : Int32) → K (0 : Int32) σ23) ∧ (¬ r24 = (0 : Int32) → wp_X5_figures (32 : Int32) v1 (1 : Int32) σ23 (fun r27 σ26 => ((r27 = (0 : Int32) → K (0 : Int32) σ26) ∧ (¬ r27 = (0 : Int32) → wp_X5_figures (32 : Int32) (v1 + (1 : Int32)) (2 : Int32) σ26 (fun r30 σ29 => ((r30 = (0 : Int32) → K (0 : Int32) σ29) ∧ (¬ r30 = (0 : Int32) → wp_X5_figures (45 : Int32) (v1 + (2 : Int32)) (2 : Int32) σ29 (fun r33 σ32 => ((r33 = (0 : Int32) → K (0 : Int32) σ32) ∧ (¬ r33 = (0 : Int32) → K (1 : Int32) σ32)))))))))))))))) ∧ (¬ r9 = (0 : Int32) → wp_X5_isWord_13 (2 : Int32) σ8 (fun r36 σ35 => ((r36 = (0 : Int32) → K (0 : Int32) σ35) ∧ (¬ r36 = (0 : Int32) → wp_X5_figures (32 : Int32) v1 (1 : Int32) σ35 (fun r39 σ38 => ((r39 = (0 : Int32) → K (0 : Int32) σ38) ∧ (¬ r39 = (0 : Int32) → wp_X5_figures (64 : Int32) (v1 + (1 : Int32)) (2 : Int32) σ38 (fun r42 σ41 => ((r42 = (0 : Int32) → K (0 : Int32) σ41) ∧ (¬ r42 = (0 : Int32) → wp_X5_figures (61 : Int32) (v1 + (2 : Int32)) (1 : Int32) σ41 (fun r45 σ44 => ((r45 = (0 : Int32) → K (0 : Int32) σ44) ∧ (¬ r45 = (0 : Int32) → K (1 : Int32) σ44)))))))))))))))) ∧ (¬ r6 = (0 : Int32) → wp_X5_withF v1 σ5 (fun r48 σ47 => (narrow .boolean (.int r48) = .int r48 ∧ K r48 σ47)))))) ∧ (¬ r3 = (0 : Int32) → wp_X5_withG v1 σ2 (fun r50 σ49 => (narrow .boolean (.int r50) = .int r50 ∧ K r50 σ49))))))

def wpJ_X5_isText_38 (K : Int32 → Mem → Prop) (σ : Mem) : Prop :=
  ((¬ (σ 25 18) = (σ 25 11) → K (0 : Int32) σ) ∧ ((σ 25 18) = (σ 25 11) → K (1 : Int32) σ))

def wpS_X5_isText_10 (K : Int32 → Mem → Prop) (B10 : Mem → Prop) (σ : Mem) : Prop :=
  wp_X5_commandHere σ (fun r4 σ3 => ((¬ r4 = (0 : Int32) → (∀ σ6 : Mem, σ6 = (st σ3 25 20 ((σ3 25 20) + (1 : Int32))) → wp_X5_skips (59 : Int32) σ6 (fun r8 σ7 => ((¬ r8 = (0 : Int32) → B10 (σ7)) ∧ (r8 = (0 : Int32) → wpJ_X5_isText_38 K σ7))))) ∧ (r4 = (0 : Int32) → K (0 : Int32) σ3)))

def wpF_X5_isText_10 (K : Int32 → Mem → Prop) (B10 : Mem → Prop) (s : Mem) : Prop := wpS_X5_isText_10 K B10 s

def wp_X5_isText (σ : Mem) (K : Int32 → Mem → Prop) : Prop :=
  (∀ σ1 : Mem, σ1 = (st σ 25 18 (0 : Int32)) → (∀ σ2 : Mem, σ2 = (st σ1 25 20 (0 : Int32)) → ∃ n, wlp (wpF_X5_isText_10 K) n (σ2)))

def wpJ_X5_execute_98 (K : Int32 → Mem → Prop) (x2 x3 : Int32) (σ : Mem) : Prop :=
  (∀ σ12 : Mem, σ12 = (st σ 25 6 (0 : Int32)) → (((σ12 25 7) ≤ (0 : Int32) → wp_X5_keeps_29 σ12 (fun σ14 => K (σ14 25 20) σ14)) ∧ (¬ (σ12 25 7) ≤ (0 : Int32) → wp_X5_copies_29_26 (0 : Int32) (0 : Int32) σ12 (fun σ15 => (∀ σ16 : Mem, σ16 = (st σ15 25 13 x2) → (∀ σ17 : Mem, σ17 = (st σ16 25 7 (2 : Int32)) → ((x3 ≤ (0 : Int32) → K x3 σ17) ∧ (¬ x3 ≤ (0 : Int32) → K (0 : Int32) σ17))))))))

def wpS_X5_execute_62 (K : Int32 → Mem → Prop) (B62 : Int32 × Int32 × Mem → Prop) (x2 x3 : Int32) (σ : Mem) : Prop :=
  (((σ 25 20) ≤ x2 → wpJ_X5_execute_98 K x2 x3 σ) ∧ (¬ (σ 25 20) ≤ x2 → ((¬ (σ 25 7) = (0 : Int32) → wpJ_X5_execute_98 K x2 x3 σ) ∧ ((σ 25 7) = (0 : Int32) → wp_X5_carries ((4 : Int32) * x2) σ (fun r21 σ20 => ((¬ (σ20 25 7) = (0 : Int32) → B62 (x2, r21, σ20)) ∧ ((σ20 25 7) = (0 : Int32) → (∀ v23 : Int32, v23 = x2 + (1 : Int32) → B62 (v23, r21, σ20)))))))))

def wpF_X5_execute_62 (K : Int32 → Mem → Prop) (B62 : Int32 × Int32 × Mem → Prop) (s : Int32 × Int32 × Mem) : Prop := wpS_X5_execute_62 K B62 s.1 s.2.1 s.2.2

def wpJ_X5_execute_32 (K : Int32 → Mem → Prop) (y1 : Int32) (σ : Mem) : Prop :=
  wp_X5_fails y1 σ (fun r7 σ6 => ((r7 = (0 : Int32) → wp_X5_copies_26_29 (0 : Int32) (0 : Int32) σ6 (fun σ9 => (∀ σ10 : Mem, σ10 = (st σ9 25 6 (1 : Int32)) → ∃ n, wlp (wpF_X5_execute_62 K) n ((0 : Int32), (0 : Int32), σ10)))) ∧ (¬ r7 = (0 : Int32) → K (0 : Int32) σ6)))

def wpJ_X5_execute_17 (K : Int32 → Mem → Prop) (x1 : Int32) (σ : Mem) : Prop :=
  (∀ σ4 : Mem, σ4 = (st σ 25 11 (0 : Int32)) → ((x1 = (0 : Int32) → wpJ_X5_execute_32 K (1 : Int32) σ4) ∧ (¬ x1 = (0 : Int32) → wpJ_X5_execute_32 K (0 : Int32) σ4)))

def wp_X5_execute (σ : Mem) (K : Int32 → Mem → Prop) : Prop :=
  wp_X5_isText σ (fun r2 σ1 => ((¬ r2 = (0 : Int32) → wpJ_X5_execute_17 K r2 σ1) ∧ (r2 = (0 : Int32) → (∀ σ24 : Mem, σ24 = (st σ1 25 12 (σ1 25 18)) → wpJ_X5_execute_17 K r2 σ24))))

def wp_X4_throwUnlessSlot_q (x1 : Int32) (σ : Mem) (K : Mem → Prop) : Prop :=
  wp_X2_isSlot x1 σ (fun r2 σ1 => ((¬ r2 = (0 : Int32) → K σ1) ∧ (r2 = (0 : Int32) → False)))

def wp_X4_mostDuties_q (x1 : Int32) (σ : Mem) (K : Int32 → Mem → Prop) : Prop :=
  wp_X4_throwUnlessSlot_q x1 σ (fun σ1 => wp_X3_prepare x1 σ1 (fun σ2 => wp_X3_countByPaths σ2 (fun r4 σ3 => K r4 σ3)))

def wp_X4_mostDutiesBySets_q (x1 : Int32) (σ : Mem) (K : Int32 → Mem → Prop) : Prop :=
  wp_X4_throwUnlessSlot_q x1 σ (fun σ1 => wp_X3_prepare x1 σ1 (fun σ2 => wp_X3_countBySets σ2 (fun r4 σ3 => K r4 σ3)))

def wpS_X4_isConsistent_15 (K : Int32 → Mem → Prop) (B15 : Int32 × Mem → Prop) (x1 : Int32) (σ : Mem) : Prop :=
  (((28 : Int32) ≤ x1 → wp_X2_allRest σ (fun r8 σ7 => (narrow .boolean (.int r8) = .int r8 ∧ K r8 σ7))) ∧ (¬ (28 : Int32) ≤ x1 → wp_X4_mostDuties_q x1 σ (fun r10 σ9 => wp_X4_mostDutiesBySets_q x1 σ9 (fun r12 σ11 => ((r10 = r12 → (∀ v14 : Int32, v14 = x1 + (1 : Int32) → B15 (v14, σ11))) ∧ (¬ r10 = r12 → K (0 : Int32) σ11))))))

def wpF_X4_isConsistent_15 (K : Int32 → Mem → Prop) (B15 : Int32 × Mem → Prop) (s : Int32 × Mem) : Prop := wpS_X4_isConsistent_15 K B15 s.1 s.2

def wp_X4_isConsistent (σ : Mem) (K : Int32 → Mem → Prop) : Prop :=
  wp_X4_openPlaces σ (fun r2 σ1 => wp_X4_openPlacesBySlots σ1 (fun r4 σ3 => ((r2 = r4 → ∃ n, wlp (wpF_X4_isConsistent_15 K) n ((0 : Int32), σ3)) ∧ (¬ r2 = r4 → K (0 : Int32) σ3))))

def wp_X4_throwFor (x0 : Int32) (σ : Mem) (K : Mem → Prop) (KX : String → Mem → Prop) : Prop :=
  ((x0 = (1 : Int32) → KX "java/lang/IndexOutOfBoundsException" σ) ∧ (x0 = (2 : Int32) → KX "java/lang/IllegalArgumentException" σ) ∧ (x0 = (3 : Int32) → KX "java/lang/IllegalStateException" σ) ∧ (x0 = (4 : Int32) → KX "java/util/NoSuchElementException" σ) ∧ (x0 = (5 : Int32) → KX "java/lang/UnsupportedOperationException" σ) ∧ (¬ x0 = (1 : Int32) → ¬ x0 = (2 : Int32) → ¬ x0 = (3 : Int32) → ¬ x0 = (4 : Int32) → ¬ x0 = (5 : Int32) → K σ))

def wp_X4_throwUnlessGuard (x1 : Int32) (σ : Mem) (K : Mem → Prop) (KX : String → Mem → Prop) : Prop :=
  wp_X2_isGuard x1 σ (fun r2 σ1 => ((¬ r2 = (0 : Int32) → K σ1) ∧ (r2 = (0 : Int32) → KX "java/lang/IndexOutOfBoundsException" σ1)))

def wp_X4_throwUnlessSlot (x1 : Int32) (σ : Mem) (K : Mem → Prop) (KX : String → Mem → Prop) : Prop :=
  wp_X2_isSlot x1 σ (fun r2 σ1 => ((¬ r2 = (0 : Int32) → K σ1) ∧ (r2 = (0 : Int32) → KX "java/lang/IndexOutOfBoundsException" σ1)))

def wp_X4_throwUnlessGuardAndSlot (x1 x2 : Int32) (σ : Mem) (K : Mem → Prop) (KX : String → Mem → Prop) : Prop :=
  wp_X4_throwUnlessGuard x1 σ (fun σ1 => wp_X4_throwUnlessSlot x2 σ1 (fun σ2 => K σ2) KX) KX

def wp_X4_throwUnlessRefused (σ : Mem) (K : Mem → Prop) (KX : String → Mem → Prop) : Prop :=
  ((¬ (σ 0 8) = (0 : Int32) → K σ) ∧ ((σ 0 8) = (0 : Int32) → KX "java/util/NoSuchElementException" σ))

def wp_X4_addGate (x1 : Int32) (σ : Mem) (K : Int32 → Mem → Prop) (KX : String → Mem → Prop) : Prop :=
  wp_X4_problemOfGate x1 σ (fun r2 σ1 => wp_X4_throwFor r2 σ1 (fun σ3 => wp_X1_keep σ3 (fun σ4 => wp_X2_appendGate x1 σ4 (fun r6 σ5 => K r6 σ5))) KX)

def wp_X4_addGuard (x1 : Int32) (σ : Mem) (K : Int32 → Mem → Prop) (KX : String → Mem → Prop) : Prop :=
  wp_X4_problemOfGuard x1 σ (fun r2 σ1 => wp_X4_throwFor r2 σ1 (fun σ3 => wp_X1_keep σ3 (fun σ4 => wp_X2_appendGuard x1 σ4 (fun r6 σ5 => K r6 σ5))) KX)

def wp_X4_neededRank (x1 : Int32) (σ : Mem) (K : Int32 → Mem → Prop) (KX : String → Mem → Prop) : Prop :=
  wp_X2_isGate x1 σ (fun r2 σ1 => ((¬ r2 = (0 : Int32) → wp_X2_rankNeededAt x1 σ1 (fun r5 σ4 => K r5 σ4)) ∧ (r2 = (0 : Int32) → KX "java/lang/IndexOutOfBoundsException" σ1)))

def wp_X4_rank (x1 : Int32) (σ : Mem) (K : Int32 → Mem → Prop) (KX : String → Mem → Prop) : Prop :=
  wp_X4_throwUnlessGuard x1 σ (fun σ1 => wp_X2_rankOf x1 σ1 (fun r3 σ2 => K r3 σ2)) KX

def wp_X4_faints (x1 : Int32) (σ : Mem) (K : Int32 → Mem → Prop) (KX : String → Mem → Prop) : Prop :=
  wp_X4_throwUnlessGuard x1 σ (fun σ1 => wp_X2_faintsOf x1 σ1 (fun r3 σ2 => K r3 σ2)) KX

def wp_X4_assign (x1 x2 x3 : Int32) (σ : Mem) (K : Int32 → Mem → Prop) (KX : String → Mem → Prop) : Prop :=
  wp_X4_problemOfDuty x1 x2 x3 σ (fun r2 σ1 => wp_X4_throwFor r2 σ1 (fun σ3 => wp_X1_keep σ3 (fun σ4 => wp_X2_setDuty x1 x2 x3 σ4 (fun σ5 => wp_X2_dutyTotal x3 σ5 (fun r7 σ6 => K r7 σ6)))) KX)

def wp_X4_canAssign (x1 x2 x3 : Int32) (σ : Mem) (K : Int32 → Mem → Prop) (KX : String → Mem → Prop) : Prop :=
  wp_X2_isGate x1 σ (fun r2 σ1 => ((r2 = (0 : Int32) → KX "java/lang/IndexOutOfBoundsException" σ1) ∧ (¬ r2 = (0 : Int32) → wp_X2_isSlot x2 σ1 (fun r5 σ4 => ((r5 = (0 : Int32) → KX "java/lang/IndexOutOfBoundsException" σ4) ∧ (¬ r5 = (0 : Int32) → wp_X2_isGuard x3 σ4 (fun r8 σ7 => ((¬ r8 = (0 : Int32) → wp_X2_hasPassed x2 σ7 (fun r11 σ10 => ((¬ r11 = (0 : Int32) → K (0 : Int32) σ10) ∧ (r11 = (0 : Int32) → wp_X2_reasonAgainst x1 x2 x3 σ10 (fun r14 σ13 => ((¬ r14 = (0 : Int32) → K (0 : Int32) σ13) ∧ (r14 = (0 : Int32) → K (1 : Int32) σ13))))))) ∧ (r8 = (0 : Int32) → KX "java/lang/IndexOutOfBoundsException" σ7)))))))))

def wp_X4_remove (x1 x2 : Int32) (σ : Mem) (K : Int32 → Mem → Prop) (KX : String → Mem → Prop) : Prop :=
  wp_X4_problemOfFreeing x1 x2 σ (fun r2 σ1 => wp_X4_throwFor r2 σ1 (fun σ3 => wp_X1_keep σ3 (fun σ4 => wp_X2_guardOn x1 x2 σ4 (fun r6 σ5 => wp_X2_setDuty x1 x2 (-1 : Int32) σ5 (fun σ7 => K r6 σ7)))) KX)

def wp_X4_exchange (x1 x2 x3 x4 : Int32) (σ : Mem) (K : Int32 → Mem → Prop) (KX : String → Mem → Prop) : Prop :=
  wp_X4_problemOfExchange x1 x2 x3 x4 σ (fun r2 σ1 => wp_X4_throwFor r2 σ1 (fun σ3 => wp_X1_keep σ3 (fun σ4 => wp_X2_guardOn x1 x2 σ4 (fun r6 σ5 => wp_X2_guardOn x3 x4 σ5 (fun r8 σ7 => wp_X2_setDuty x1 x2 r8 σ7 (fun σ9 => wp_X2_setDuty x3 x4 r6 σ9 (fun σ10 => K r8 σ10)))))) KX)

def wp_X4_fillSlot (x1 : Int32) (σ : Mem) (K : Int32 → Mem → Prop) (KX : String → Mem → Prop) : Prop :=
  wp_X4_problemOfFilling x1 σ (fun r2 σ1 => wp_X4_throwFor r2 σ1 (fun σ3 => wp_X1_keep σ3 (fun σ4 => wp_X2_fill x1 σ4 (fun r6 σ5 => K r6 σ5))) KX)

def wp_X4_guardAt (x1 x2 : Int32) (σ : Mem) (K : Int32 → Mem → Prop) (KX : String → Mem → Prop) : Prop :=
  wp_X2_isGate x1 σ (fun r2 σ1 => ((r2 = (0 : Int32) → KX "java/lang/IndexOutOfBoundsException" σ1) ∧ (¬ r2 = (0 : Int32) → wp_X2_isSlot x2 σ1 (fun r5 σ4 => ((¬ r5 = (0 : Int32) → wp_X2_guardOn x1 x2 σ4 (fun r8 σ7 => ((¬ r8 = (-1 : Int32) → K r8 σ7) ∧ (r8 = (-1 : Int32) → KX "java/util/NoSuchElementException" σ7)))) ∧ (r5 = (0 : Int32) → KX "java/lang/IndexOutOfBoundsException" σ4))))))

def wp_X4_gateOf (x1 x2 : Int32) (σ : Mem) (K : Int32 → Mem → Prop) (KX : String → Mem → Prop) : Prop :=
  wp_X4_throwUnlessGuardAndSlot x1 x2 σ (fun σ1 => wp_X2_gateHeld x1 x2 σ1 (fun r3 σ2 => ((¬ r3 = (-1 : Int32) → K r3 σ2) ∧ (r3 = (-1 : Int32) → KX "java/util/NoSuchElementException" σ2)))) KX

def wp_X4_dutiesOf (x1 : Int32) (σ : Mem) (K : Int32 → Mem → Prop) (KX : String → Mem → Prop) : Prop :=
  wp_X4_throwUnlessGuard x1 σ (fun σ1 => wp_X2_dutyTotal x1 σ1 (fun r3 σ2 => K r3 σ2)) KX

def wp_X4_openGates (x1 : Int32) (σ : Mem) (K : Int32 → Mem → Prop) (KX : String → Mem → Prop) : Prop :=
  wp_X4_throwUnlessSlot x1 σ (fun σ1 => wp_X2_openGatesIn x1 σ1 (fun r3 σ2 => K r3 σ2)) KX

def wp_X4_mostDuties (x1 : Int32) (σ : Mem) (K : Int32 → Mem → Prop) (KX : String → Mem → Prop) : Prop :=
  wp_X4_throwUnlessSlot x1 σ (fun σ1 => wp_X3_prepare x1 σ1 (fun σ2 => wp_X3_countByPaths σ2 (fun r4 σ3 => K r4 σ3))) KX

def wp_X4_mostDutiesBySets (x1 : Int32) (σ : Mem) (K : Int32 → Mem → Prop) (KX : String → Mem → Prop) : Prop :=
  wp_X4_throwUnlessSlot x1 σ (fun σ1 => wp_X3_prepare x1 σ1 (fun σ2 => wp_X3_countBySets σ2 (fun r4 σ3 => K r4 σ3))) KX

def wp_X4_nextDuty (x1 : Int32) (σ : Mem) (K : Int32 → Mem → Prop) (KX : String → Mem → Prop) : Prop :=
  wp_X4_throwUnlessGuard x1 σ (fun σ1 => wp_X2_nextSlotOf x1 σ1 (fun r3 σ2 => ((¬ r3 = (-1 : Int32) → K r3 σ2) ∧ (r3 = (-1 : Int32) → KX "java/util/NoSuchElementException" σ2)))) KX

def wp_X4_longestRest (x1 : Int32) (σ : Mem) (K : Int32 → Mem → Prop) (KX : String → Mem → Prop) : Prop :=
  wp_X4_throwUnlessGuard x1 σ (fun σ1 => wp_X2_longestGap x1 σ1 (fun r3 σ2 => K r3 σ2)) KX

def wp_X4_guardByDuties (x1 : Int32) (σ : Mem) (K : Int32 → Mem → Prop) (KX : String → Mem → Prop) : Prop :=
  wp_X2_isGuard x1 σ (fun r2 σ1 => ((¬ r2 = (0 : Int32) → wp_X2_guardInOrder x1 σ1 (fun r5 σ4 => K r5 σ4)) ∧ (r2 = (0 : Int32) → KX "java/util/NoSuchElementException" σ1)))

def wp_X4_grantLeave (x1 x2 x3 : Int32) (σ : Mem) (K : Int32 → Mem → Prop) (KX : String → Mem → Prop) : Prop :=
  wp_X4_problemOfLeave x1 x2 x3 σ (fun r2 σ1 => wp_X4_throwFor r2 σ1 (fun σ3 => wp_X1_keep σ3 (fun σ4 => wp_X2_addLeave x1 x2 x3 σ4 (fun r6 σ5 => K r6 σ5))) KX)

def wp_X4_endLeave (x1 x2 : Int32) (σ : Mem) (K : Int32 → Mem → Prop) (KX : String → Mem → Prop) : Prop :=
  wp_X4_throwUnlessGuardAndSlot x1 x2 σ (fun σ1 => wp_X2_hasLeave x1 x2 σ1 (fun r3 σ2 => ((¬ r3 = (0 : Int32) → wp_X1_keep σ2 (fun σ5 => wp_X2_dropLeave x1 x2 σ5 (fun σ6 => wp_X2_leaveTotal x1 σ6 (fun r8 σ7 => K r8 σ7)))) ∧ (r3 = (0 : Int32) → KX "java/util/NoSuchElementException" σ2)))) KX

def wp_X4_isOnLeave (x1 x2 : Int32) (σ : Mem) (K : Int32 → Mem → Prop) (KX : String → Mem → Prop) : Prop :=
  wp_X4_throwUnlessGuardAndSlot x1 x2 σ (fun σ1 => wp_X2_hasLeave x1 x2 σ1 (fun r3 σ2 => (narrow .boolean (.int r3) = .int r3 ∧ K r3 σ2))) KX

def wp_X4_leaveSlots (x1 : Int32) (σ : Mem) (K : Int32 → Mem → Prop) (KX : String → Mem → Prop) : Prop :=
  wp_X4_throwUnlessGuard x1 σ (fun σ1 => wp_X2_leaveTotal x1 σ1 (fun r3 σ2 => K r3 σ2)) KX

def wp_X4_addRations (x1 : Int32) (σ : Mem) (K : Int32 → Mem → Prop) (KX : String → Mem → Prop) : Prop :=
  wp_X4_problemOfFood x1 σ (fun r2 σ1 => wp_X4_throwFor r2 σ1 (fun σ3 => wp_X1_keep σ3 (fun σ4 => wp_X2_store x1 σ4 (fun σ5 => wp_X2_rationsLeft σ5 (fun r7 σ6 => K r7 σ6)))) KX)

def wp_X4_passSlots (x1 : Int32) (σ : Mem) (K : Int32 → Mem → Prop) (KX : String → Mem → Prop) : Prop :=
  wp_X4_problemOfPassing x1 σ (fun r2 σ1 => wp_X4_throwFor r2 σ1 (fun σ3 => wp_X1_keep σ3 (fun σ4 => wp_X2_letPass x1 σ4 (fun r6 σ5 => K r6 σ5))) KX)

def wp_X4_refusalReason (σ : Mem) (K : Int32 → Mem → Prop) (KX : String → Mem → Prop) : Prop :=
  wp_X4_throwUnlessRefused σ (fun σ1 => K (σ1 0 8) σ1) KX

def wp_X4_refusalDetail (σ : Mem) (K : Int32 → Mem → Prop) (KX : String → Mem → Prop) : Prop :=
  wp_X4_throwUnlessRefused σ (fun σ1 => K (σ1 0 9) σ1) KX

def wp_X4_meanDuties (σ : Mem) (K : UInt64 → Mem → Prop) (KX : String → Mem → Prop) : Prop :=
  wp_X2_guards σ (fun r2 σ1 => (((0 : Int32) < r2 → wp_X2_allDuties (0 : Int32) σ1 (fun r5 σ4 => (vf_n64 (FP.ddiv (FP.i2d r5) (FP.i2d r2)) ∧ K (FP.ddiv (FP.i2d r5) (FP.i2d r2)) σ4))) ∧ (¬ (0 : Int32) < r2 → KX "java/lang/ArithmeticException" σ1)))

def wp_X4_coveredFraction (σ : Mem) (K : UInt32 → Mem → Prop) (KX : String → Mem → Prop) : Prop :=
  wp_X2_gates σ (fun r2 σ1 => (∀ v3 : Int32, v3 = (28 : Int32) * r2 → (((0 : Int32) < v3 → wp_X2_allDuties (0 : Int32) σ1 (fun r6 σ5 => (vf_n32 (FP.fdiv (FP.i2f r6) (FP.i2f v3)) ∧ K (FP.fdiv (FP.i2f r6) (FP.i2f v3)) σ5))) ∧ (¬ (0 : Int32) < v3 → KX "java/lang/ArithmeticException" σ1))))

def wpS_X4_writeSlot_42 (K : Int32 → Mem → Prop) (KX : String → Mem → Prop) (B42 : Int32 × Int32 × Mem → Prop) (x1 x2 : Int32) (σ : Mem) : Prop :=
  wp_X2_gates σ (fun r8 σ7 => ((r8 ≤ x2 → K (σ7 0 7) σ7) ∧ (¬ r8 ≤ x2 → wp_X4_put (32 : Int32) σ7 (fun σ10 => wp_X2_guardOn x2 x1 σ10 (fun r12 σ11 => wp_X4_putNumberOr r12 (45 : Int32) σ11 (fun σ13 => (∀ v14 : Int32, v14 = x2 + (1 : Int32) → B42 (x1, v14, σ13))))))))

def wpF_X4_writeSlot_42 (K : Int32 → Mem → Prop) (KX : String → Mem → Prop) (B42 : Int32 × Int32 × Mem → Prop) (s : Int32 × Int32 × Mem) : Prop := wpS_X4_writeSlot_42 K KX B42 s.1 s.2.1 s.2.2

def wpJ_X4_writeSlot_24 (K : Int32 → Mem → Prop) (KX : String → Mem → Prop) (x1 y1 : Int32) (σ : Mem) : Prop :=
  wp_X4_put y1 σ (fun σ4 => wp_X4_putNumber (x1 / (2 : Int32)) σ4 (fun σ5 => wp_X4_put (58 : Int32) σ5 (fun σ6 => ∃ n, wlp (wpF_X4_writeSlot_42 K KX) n (x1, (0 : Int32), σ6))))

def wp_X4_writeSlot (x1 : Int32) (σ : Mem) (K : Int32 → Mem → Prop) (KX : String → Mem → Prop) : Prop :=
  wp_X4_throwUnlessSlot x1 σ (fun σ1 => (∀ σ2 : Mem, σ2 = (st σ1 0 7 (0 : Int32)) → ((¬ (x1 - x1 / (2 : Int32) * (2 : Int32)) = (0 : Int32) → wpJ_X4_writeSlot_24 K KX x1 (110 : Int32) σ2) ∧ ((x1 - x1 / (2 : Int32) * (2 : Int32)) = (0 : Int32) → wpJ_X4_writeSlot_24 K KX x1 (100 : Int32) σ2)))) KX

def wpJ_X4_writeGuard_47 (K : Int32 → Mem → Prop) (KX : String → Mem → Prop) (B12 : Int32 × Int32 × Mem → Prop) (x1 x2 y1 y2 : Int32) (σ : Mem) : Prop :=
  wp_X4_putNumberOr y1 y2 σ (fun σ9 => (∀ v10 : Int32, v10 = x2 + (1 : Int32) → B12 (x1, v10, σ9)))

def wpS_X4_writeGuard_12 (K : Int32 → Mem → Prop) (KX : String → Mem → Prop) (B12 : Int32 × Int32 × Mem → Prop) (x1 x2 : Int32) (σ : Mem) : Prop :=
  (((28 : Int32) ≤ x2 → K (σ 0 7) σ) ∧ (¬ (28 : Int32) ≤ x2 → wp_X2_gateHeld x1 x2 σ (fun r5 σ4 => wp_X2_hasLeave x1 x2 σ4 (fun r7 σ6 => ((r7 = (0 : Int32) → wpJ_X4_writeGuard_47 K KX B12 x1 x2 r5 (46 : Int32) σ6) ∧ (¬ r7 = (0 : Int32) → wpJ_X4_writeGuard_47 K KX B12 x1 x2 r5 (120 : Int32) σ6))))))

def wpF_X4_writeGuard_12 (K : Int32 → Mem → Prop) (KX : String → Mem → Prop) (B12 : Int32 × Int32 × Mem → Prop) (s : Int32 × Int32 × Mem) : Prop := wpS_X4_writeGuard_12 K KX B12 s.1 s.2.1 s.2.2

def wp_X4_writeGuard (x1 : Int32) (σ : Mem) (K : Int32 → Mem → Prop) (KX : String → Mem → Prop) : Prop :=
  wp_X4_throwUnlessGuard x1 σ (fun σ1 => (∀ σ2 : Mem, σ2 = (st σ1 0 7 (0 : Int32)) → ∃ n, wlp (wpF_X4_writeGuard_12 K KX) n (x1, (0 : Int32), σ2))) KX

def wp_X4_outputCharacter (x1 : Int32) (σ : Mem) (K : Int32 → Mem → Prop) (KX : String → Mem → Prop) : Prop :=
  ((x1 < (0 : Int32) → KX "java/lang/IndexOutOfBoundsException" σ) ∧ (¬ x1 < (0 : Int32) → (((σ 0 7) ≤ x1 → KX "java/lang/IndexOutOfBoundsException" σ) ∧ (¬ (σ 0 7) ≤ x1 → ((x1 < (28 : Int32) → (vp_in x1 28 ∧ (narrow .char (.int (σ 24 x1.toNatClampNeg)) = .int (σ 24 x1.toNatClampNeg) ∧ K (σ 24 x1.toNatClampNeg) σ))) ∧ (¬ x1 < (28 : Int32) → KX "java/lang/IndexOutOfBoundsException" σ))))))

def wp_X4_feed (x1 : Int32) (σ : Mem) (K : Int32 → Mem → Prop) (KX : String → Mem → Prop) : Prop :=
  wp_X0_isFull σ (fun r2 σ1 => ((r2 = (0 : Int32) → wp_X0_append x1 σ1 (fun r5 σ4 => K r5 σ4)) ∧ (¬ r2 = (0 : Int32) → KX "java/lang/IllegalStateException" σ1)))

def wpJ_X4_execute_106 (K : Int32 → Mem → Prop) (KX : String → Mem → Prop) (σ : Mem) : Prop :=
  wp_X1_end σ (fun σ9 => wp_X0_commands σ9 (fun r11 σ10 => K r11 σ10))

def wpJ_X4_execute_73 (K : Int32 → Mem → Prop) (KX : String → Mem → Prop) (x2 : Int32) (σ : Mem) : Prop :=
  wp_X1_backOut σ (fun σ16 => (∀ σ17 : Mem, σ17 = (st σ16 0 11 x2) → KX "java/lang/UnsupportedOperationException" σ17))

def wpS_X4_execute_54 (K : Int32 → Mem → Prop) (KX : String → Mem → Prop) (B54 : Int32 × Mem → Prop) (x2 : Int32) (σ : Mem) : Prop :=
  wp_X0_commands σ (fun r7 σ6 => ((r7 ≤ x2 → wpJ_X4_execute_106 K KX σ6) ∧ (¬ r7 ≤ x2 → wp_X4_runs x2 σ6 (fun r13 σ12 => ((¬ r13 = (0 : Int32) → (∀ v15 : Int32, v15 = x2 + (1 : Int32) → B54 (v15, σ12))) ∧ (r13 = (0 : Int32) → wpJ_X4_execute_73 K KX x2 σ12))))))

def wpF_X4_execute_54 (K : Int32 → Mem → Prop) (KX : String → Mem → Prop) (B54 : Int32 × Mem → Prop) (s : Int32 × Mem) : Prop := wpS_X4_execute_54 K KX B54 s.1 s.2

def wp_X4_execute (σ : Mem) (K : Int32 → Mem → Prop) (KX : String → Mem → Prop) : Prop :=
  wp_X0_parse σ (fun r2 σ1 => wp_X0_empty σ1 (fun σ3 => ((¬ r2 = (0 : Int32) → wp_X1_begin σ3 (fun σ5 => ∃ n, wlp (wpF_X4_execute_54 K KX) n ((0 : Int32), σ5))) ∧ (r2 = (0 : Int32) → wp_X0_firstWrong σ3 (fun r19 σ18 => (∀ σ20 : Mem, σ20 = (st σ18 0 10 r19) → KX "java/lang/IllegalArgumentException" σ20))))))

def wp_X4_errorPosition (σ : Mem) (K : Int32 → Mem → Prop) (KX : String → Mem → Prop) : Prop :=
  ((¬ (σ 0 10) = (-1 : Int32) → K (σ 0 10) σ) ∧ ((σ 0 10) = (-1 : Int32) → KX "java/util/NoSuchElementException" σ))

def wp_X4_failedCommand (σ : Mem) (K : Int32 → Mem → Prop) (KX : String → Mem → Prop) : Prop :=
  ((¬ (σ 0 11) = (-1 : Int32) → K (σ 0 11) σ) ∧ ((σ 0 11) = (-1 : Int32) → KX "java/util/NoSuchElementException" σ))

def wp_X4_undo (σ : Mem) (K : Int32 → Mem → Prop) (KX : String → Mem → Prop) : Prop :=
  wp_X1_size σ (fun r2 σ1 => ((¬ r2 = (0 : Int32) → wp_X1_takeBack σ1 (fun σ4 => wp_X1_size σ4 (fun r6 σ5 => K r6 σ5))) ∧ (r2 = (0 : Int32) → KX "java/lang/IllegalStateException" σ1)))

def wp_X4_restore (σ : Mem) (K : Int32 → Mem → Prop) (KX : String → Mem → Prop) : Prop :=
  ((¬ (σ 0 5) = (0 : Int32) → wp_X2_copyFrom_23 σ (fun σ2 => wp_X1_forget σ2 (fun σ3 => wp_X2_guards σ3 (fun r5 σ4 => K r5 σ4)))) ∧ ((σ 0 5) = (0 : Int32) → KX "java/lang/IllegalStateException" σ))

def wpJ_X5_meanDuties_15 (K : UInt64 → Mem → Prop) (y1 : Int32) (σ : Mem) : Prop :=
  wp_X5_fails y1 σ (fun r3 σ2 => ((r3 = (0 : Int32) → wp_X5_allDuties σ2 (fun r6 σ5 => (vf_n64 (FP.ddiv (FP.i2d r6) (FP.i2d (σ5 26 1))) ∧ K (FP.ddiv (FP.i2d r6) (FP.i2d (σ5 26 1))) σ5))) ∧ (¬ r3 = (0 : Int32) → K FP.dconst0 σ2)))

def wp_X5_meanDuties (σ : Mem) (K : UInt64 → Mem → Prop) : Prop :=
  ((¬ (σ 26 1) = (0 : Int32) → wpJ_X5_meanDuties_15 K (0 : Int32) σ) ∧ ((σ 26 1) = (0 : Int32) → wpJ_X5_meanDuties_15 K (1 : Int32) σ))

def wpJ_X5_coveredFraction_15 (K : UInt32 → Mem → Prop) (y1 : Int32) (σ : Mem) : Prop :=
  wp_X5_fails y1 σ (fun r3 σ2 => ((r3 = (0 : Int32) → wp_X5_allDuties σ2 (fun r6 σ5 => (vf_n32 (FP.fdiv (FP.i2f r6) (FP.i2f ((28 : Int32) * (σ5 26 0)))) ∧ K (FP.fdiv (FP.i2f r6) (FP.i2f ((28 : Int32) * (σ5 26 0)))) σ5))) ∧ (¬ r3 = (0 : Int32) → K FP.fconst0 σ2)))

def wp_X5_coveredFraction (σ : Mem) (K : UInt32 → Mem → Prop) : Prop :=
  ((¬ (σ 26 0) = (0 : Int32) → wpJ_X5_coveredFraction_15 K (0 : Int32) σ) ∧ ((σ 26 0) = (0 : Int32) → wpJ_X5_coveredFraction_15 K (1 : Int32) σ))

def wp_L_addGate (x1 : Int32) (σ : Mem) (K : Int32 → Mem → Prop) : Prop :=
  wp_X4_addGate x1 σ (fun r3 σ1 => (∀ σ4 : Mem, σ4 = (st σ1 34 0 r3) → K (0 : Int32) σ4)) (fun E9 σ9 => (E9 = "java/lang/IllegalArgumentException" ∧ K (1 : Int32) σ9) ∨ (E9 = "java/lang/IllegalStateException" ∧ K (2 : Int32) σ9))

def wp_L_addGuard (x1 : Int32) (σ : Mem) (K : Int32 → Mem → Prop) : Prop :=
  wp_X4_addGuard x1 σ (fun r3 σ1 => (∀ σ4 : Mem, σ4 = (st σ1 34 0 r3) → K (0 : Int32) σ4)) (fun E9 σ9 => (E9 = "java/lang/IllegalArgumentException" ∧ K (1 : Int32) σ9) ∨ (E9 = "java/lang/IllegalStateException" ∧ K (2 : Int32) σ9))

def wp_L_neededRank (x1 : Int32) (σ : Mem) (K : Int32 → Mem → Prop) : Prop :=
  wp_X4_neededRank x1 σ (fun r3 σ1 => (∀ σ4 : Mem, σ4 = (st σ1 34 0 r3) → K (0 : Int32) σ4)) (fun E9 σ9 => (E9 = "java/lang/IndexOutOfBoundsException" ∧ K (1 : Int32) σ9))

def wp_L_rank (x1 : Int32) (σ : Mem) (K : Int32 → Mem → Prop) : Prop :=
  wp_X4_rank x1 σ (fun r3 σ1 => (∀ σ4 : Mem, σ4 = (st σ1 34 0 r3) → K (0 : Int32) σ4)) (fun E9 σ9 => (E9 = "java/lang/IndexOutOfBoundsException" ∧ K (1 : Int32) σ9))

def wp_L_faints (x1 : Int32) (σ : Mem) (K : Int32 → Mem → Prop) : Prop :=
  wp_X4_faints x1 σ (fun r3 σ1 => (∀ σ4 : Mem, σ4 = (st σ1 34 0 r3) → K (0 : Int32) σ4)) (fun E9 σ9 => (E9 = "java/lang/IndexOutOfBoundsException" ∧ K (1 : Int32) σ9))

def wp_L_assign (x1 x2 x3 : Int32) (σ : Mem) (K : Int32 → Mem → Prop) : Prop :=
  wp_X4_assign x1 x2 x3 σ (fun r3 σ1 => (∀ σ4 : Mem, σ4 = (st σ1 34 0 r3) → K (0 : Int32) σ4)) (fun E9 σ9 => (E9 = "java/lang/IndexOutOfBoundsException" ∧ K (1 : Int32) σ9) ∨ (E9 = "java/lang/IllegalStateException" ∧ K (2 : Int32) σ9) ∨ (E9 = "java/lang/UnsupportedOperationException" ∧ K (3 : Int32) σ9))

def wp_L_canAssign (x1 x2 x3 : Int32) (σ : Mem) (K : Int32 → Mem → Prop) : Prop :=
  wp_X4_canAssign x1 x2 x3 σ (fun r3 σ1 => ((r3 = (0 : Int32) → (∀ σ5 : Mem, σ5 = (st σ1 34 0 (0 : Int32)) → K (0 : Int32) σ5)) ∧ (¬ r3 = (0 : Int32) → (∀ σ6 : Mem, σ6 = (st σ1 34 0 (1 : Int32)) → K (0 : Int32) σ6)))) (fun E9 σ9 => (E9 = "java/lang/IndexOutOfBoundsException" ∧ K (1 : Int32) σ9))

def wp_L_remove (x1 x2 : Int32) (σ : Mem) (K : Int32 → Mem → Prop) : Prop :=
  wp_X4_remove x1 x2 σ (fun r3 σ1 => (∀ σ4 : Mem, σ4 = (st σ1 34 0 r3) → K (0 : Int32) σ4)) (fun E9 σ9 => (E9 = "java/lang/IndexOutOfBoundsException" ∧ K (1 : Int32) σ9) ∨ (E9 = "java/lang/IllegalStateException" ∧ K (2 : Int32) σ9) ∨ (E9 = "java/util/NoSuchElementException" ∧ K (3 : Int32) σ9))

def wp_L_exchange (x1 x2 x3 x4 : Int32) (σ : Mem) (K : Int32 → Mem → Prop) : Prop :=
  wp_X4_exchange x1 x2 x3 x4 σ (fun r3 σ1 => (∀ σ4 : Mem, σ4 = (st σ1 34 0 r3) → K (0 : Int32) σ4)) (fun E9 σ9 => (E9 = "java/lang/IndexOutOfBoundsException" ∧ K (1 : Int32) σ9) ∨ (E9 = "java/lang/IllegalArgumentException" ∧ K (2 : Int32) σ9) ∨ (E9 = "java/lang/IllegalStateException" ∧ K (3 : Int32) σ9) ∨ (E9 = "java/util/NoSuchElementException" ∧ K (4 : Int32) σ9) ∨ (E9 = "java/lang/UnsupportedOperationException" ∧ K (5 : Int32) σ9))

def wp_L_fillSlot (x1 : Int32) (σ : Mem) (K : Int32 → Mem → Prop) : Prop :=
  wp_X4_fillSlot x1 σ (fun r3 σ1 => (∀ σ4 : Mem, σ4 = (st σ1 34 0 r3) → K (0 : Int32) σ4)) (fun E9 σ9 => (E9 = "java/lang/IndexOutOfBoundsException" ∧ K (1 : Int32) σ9) ∨ (E9 = "java/lang/IllegalStateException" ∧ K (2 : Int32) σ9))

def wp_L_guardAt (x1 x2 : Int32) (σ : Mem) (K : Int32 → Mem → Prop) : Prop :=
  wp_X4_guardAt x1 x2 σ (fun r3 σ1 => (∀ σ4 : Mem, σ4 = (st σ1 34 0 r3) → K (0 : Int32) σ4)) (fun E9 σ9 => (E9 = "java/lang/IndexOutOfBoundsException" ∧ K (1 : Int32) σ9) ∨ (E9 = "java/util/NoSuchElementException" ∧ K (2 : Int32) σ9))

def wp_L_gateOf (x1 x2 : Int32) (σ : Mem) (K : Int32 → Mem → Prop) : Prop :=
  wp_X4_gateOf x1 x2 σ (fun r3 σ1 => (∀ σ4 : Mem, σ4 = (st σ1 34 0 r3) → K (0 : Int32) σ4)) (fun E9 σ9 => (E9 = "java/lang/IndexOutOfBoundsException" ∧ K (1 : Int32) σ9) ∨ (E9 = "java/util/NoSuchElementException" ∧ K (2 : Int32) σ9))

def wp_L_dutiesOf (x1 : Int32) (σ : Mem) (K : Int32 → Mem → Prop) : Prop :=
  wp_X4_dutiesOf x1 σ (fun r3 σ1 => (∀ σ4 : Mem, σ4 = (st σ1 34 0 r3) → K (0 : Int32) σ4)) (fun E9 σ9 => (E9 = "java/lang/IndexOutOfBoundsException" ∧ K (1 : Int32) σ9))

def wp_L_openGates (x1 : Int32) (σ : Mem) (K : Int32 → Mem → Prop) : Prop :=
  wp_X4_openGates x1 σ (fun r3 σ1 => (∀ σ4 : Mem, σ4 = (st σ1 34 0 r3) → K (0 : Int32) σ4)) (fun E9 σ9 => (E9 = "java/lang/IndexOutOfBoundsException" ∧ K (1 : Int32) σ9))

def wp_L_mostDuties (x1 : Int32) (σ : Mem) (K : Int32 → Mem → Prop) : Prop :=
  wp_X4_mostDuties x1 σ (fun r3 σ1 => (∀ σ4 : Mem, σ4 = (st σ1 34 0 r3) → K (0 : Int32) σ4)) (fun E9 σ9 => (E9 = "java/lang/IndexOutOfBoundsException" ∧ K (1 : Int32) σ9))

def wp_L_mostDutiesBySets (x1 : Int32) (σ : Mem) (K : Int32 → Mem → Prop) : Prop :=
  wp_X4_mostDutiesBySets x1 σ (fun r3 σ1 => (∀ σ4 : Mem, σ4 = (st σ1 34 0 r3) → K (0 : Int32) σ4)) (fun E9 σ9 => (E9 = "java/lang/IndexOutOfBoundsException" ∧ K (1 : Int32) σ9))

def wp_L_nextDuty (x1 : Int32) (σ : Mem) (K : Int32 → Mem → Prop) : Prop :=
  wp_X4_nextDuty x1 σ (fun r3 σ1 => (∀ σ4 : Mem, σ4 = (st σ1 34 0 r3) → K (0 : Int32) σ4)) (fun E9 σ9 => (E9 = "java/lang/IndexOutOfBoundsException" ∧ K (1 : Int32) σ9) ∨ (E9 = "java/util/NoSuchElementException" ∧ K (2 : Int32) σ9))

def wp_L_longestRest (x1 : Int32) (σ : Mem) (K : Int32 → Mem → Prop) : Prop :=
  wp_X4_longestRest x1 σ (fun r3 σ1 => (∀ σ4 : Mem, σ4 = (st σ1 34 0 r3) → K (0 : Int32) σ4)) (fun E9 σ9 => (E9 = "java/lang/IndexOutOfBoundsException" ∧ K (1 : Int32) σ9))

def wp_L_guardByDuties (x1 : Int32) (σ : Mem) (K : Int32 → Mem → Prop) : Prop :=
  wp_X4_guardByDuties x1 σ (fun r3 σ1 => (∀ σ4 : Mem, σ4 = (st σ1 34 0 r3) → K (0 : Int32) σ4)) (fun E9 σ9 => (E9 = "java/util/NoSuchElementException" ∧ K (1 : Int32) σ9))

def wp_L_grantLeave (x1 x2 x3 : Int32) (σ : Mem) (K : Int32 → Mem → Prop) : Prop :=
  wp_X4_grantLeave x1 x2 x3 σ (fun r3 σ1 => (∀ σ4 : Mem, σ4 = (st σ1 34 0 r3) → K (0 : Int32) σ4)) (fun E9 σ9 => (E9 = "java/lang/IndexOutOfBoundsException" ∧ K (1 : Int32) σ9) ∨ (E9 = "java/lang/IllegalArgumentException" ∧ K (2 : Int32) σ9) ∨ (E9 = "java/lang/IllegalStateException" ∧ K (3 : Int32) σ9) ∨ (E9 = "java/lang/UnsupportedOperationException" ∧ K (4 : Int32) σ9))

def wp_L_endLeave (x1 x2 : Int32) (σ : Mem) (K : Int32 → Mem → Prop) : Prop :=
  wp_X4_endLeave x1 x2 σ (fun r3 σ1 => (∀ σ4 : Mem, σ4 = (st σ1 34 0 r3) → K (0 : Int32) σ4)) (fun E9 σ9 => (E9 = "java/lang/IndexOutOfBoundsException" ∧ K (1 : Int32) σ9) ∨ (E9 = "java/util/NoSuchElementException" ∧ K (2 : Int32) σ9))

def wp_L_isOnLeave (x1 x2 : Int32) (σ : Mem) (K : Int32 → Mem → Prop) : Prop :=
  wp_X4_isOnLeave x1 x2 σ (fun r3 σ1 => ((r3 = (0 : Int32) → (∀ σ5 : Mem, σ5 = (st σ1 34 0 (0 : Int32)) → K (0 : Int32) σ5)) ∧ (¬ r3 = (0 : Int32) → (∀ σ6 : Mem, σ6 = (st σ1 34 0 (1 : Int32)) → K (0 : Int32) σ6)))) (fun E9 σ9 => (E9 = "java/lang/IndexOutOfBoundsException" ∧ K (1 : Int32) σ9))

def wp_L_leaveSlots (x1 : Int32) (σ : Mem) (K : Int32 → Mem → Prop) : Prop :=
  wp_X4_leaveSlots x1 σ (fun r3 σ1 => (∀ σ4 : Mem, σ4 = (st σ1 34 0 r3) → K (0 : Int32) σ4)) (fun E9 σ9 => (E9 = "java/lang/IndexOutOfBoundsException" ∧ K (1 : Int32) σ9))

def wp_L_addRations (x1 : Int32) (σ : Mem) (K : Int32 → Mem → Prop) : Prop :=
  wp_X4_addRations x1 σ (fun r3 σ1 => (∀ σ4 : Mem, σ4 = (st σ1 34 0 r3) → K (0 : Int32) σ4)) (fun E9 σ9 => (E9 = "java/lang/IllegalArgumentException" ∧ K (1 : Int32) σ9) ∨ (E9 = "java/lang/IllegalStateException" ∧ K (2 : Int32) σ9))

def wp_L_passSlots (x1 : Int32) (σ : Mem) (K : Int32 → Mem → Prop) : Prop :=
  wp_X4_passSlots x1 σ (fun r3 σ1 => (∀ σ4 : Mem, σ4 = (st σ1 34 0 r3) → K (0 : Int32) σ4)) (fun E9 σ9 => (E9 = "java/lang/IllegalArgumentException" ∧ K (1 : Int32) σ9) ∨ (E9 = "java/lang/IllegalStateException" ∧ K (2 : Int32) σ9))

def wp_L_refusalReason (σ : Mem) (K : Int32 → Mem → Prop) : Prop :=
  wp_X4_refusalReason σ (fun r3 σ1 => (∀ σ4 : Mem, σ4 = (st σ1 34 0 r3) → K (0 : Int32) σ4)) (fun E9 σ9 => (E9 = "java/util/NoSuchElementException" ∧ K (1 : Int32) σ9))

def wp_L_refusalDetail (σ : Mem) (K : Int32 → Mem → Prop) : Prop :=
  wp_X4_refusalDetail σ (fun r3 σ1 => (∀ σ4 : Mem, σ4 = (st σ1 34 0 r3) → K (0 : Int32) σ4)) (fun E9 σ9 => (E9 = "java/util/NoSuchElementException" ∧ K (1 : Int32) σ9))

def wp_L_meanDuties (σ : Mem) (K : Int32 → Mem → Prop) : Prop :=
  wp_X4_meanDuties σ (fun r3 σ1 => (∃ k9 a9 b9 : Int32, r3 = dval k9 a9 b9 ∧ (∀ σ4 : Mem, σ4 = (st (st (st σ1 35 0 k9) 35 1 a9) 35 2 b9) → K (0 : Int32) σ4))) (fun E9 σ9 => (E9 = "java/lang/ArithmeticException" ∧ K (1 : Int32) σ9))

def wp_L_coveredFraction (σ : Mem) (K : Int32 → Mem → Prop) : Prop :=
  wp_X4_coveredFraction σ (fun r3 σ1 => (vf_n64 (FP.f2d r3) ∧ (∃ k9 a9 b9 : Int32, FP.f2d r3 = dval k9 a9 b9 ∧ (∀ σ4 : Mem, σ4 = (st (st (st σ1 35 0 k9) 35 1 a9) 35 2 b9) → K (0 : Int32) σ4)))) (fun E9 σ9 => (E9 = "java/lang/ArithmeticException" ∧ K (1 : Int32) σ9))

def wp_L_writeSlot (x1 : Int32) (σ : Mem) (K : Int32 → Mem → Prop) : Prop :=
  wp_X4_writeSlot x1 σ (fun r3 σ1 => (∀ σ4 : Mem, σ4 = (st σ1 34 0 r3) → K (0 : Int32) σ4)) (fun E9 σ9 => (E9 = "java/lang/IndexOutOfBoundsException" ∧ K (1 : Int32) σ9))

def wp_L_writeGuard (x1 : Int32) (σ : Mem) (K : Int32 → Mem → Prop) : Prop :=
  wp_X4_writeGuard x1 σ (fun r3 σ1 => (∀ σ4 : Mem, σ4 = (st σ1 34 0 r3) → K (0 : Int32) σ4)) (fun E9 σ9 => (E9 = "java/lang/IndexOutOfBoundsException" ∧ K (1 : Int32) σ9))

def wp_L_outputCharacter (x1 : Int32) (σ : Mem) (K : Int32 → Mem → Prop) : Prop :=
  wp_X4_outputCharacter x1 σ (fun r3 σ1 => (∀ σ4 : Mem, σ4 = (st σ1 34 0 r3) → K (0 : Int32) σ4)) (fun E9 σ9 => (E9 = "java/lang/IndexOutOfBoundsException" ∧ K (1 : Int32) σ9))

def wp_L_feed (x1 : Int32) (σ : Mem) (K : Int32 → Mem → Prop) : Prop :=
  wp_X4_feed x1 σ (fun r3 σ1 => (∀ σ4 : Mem, σ4 = (st σ1 34 0 r3) → K (0 : Int32) σ4)) (fun E9 σ9 => (E9 = "java/lang/IllegalStateException" ∧ K (1 : Int32) σ9))

def wp_L_execute (σ : Mem) (K : Int32 → Mem → Prop) : Prop :=
  wp_X4_execute σ (fun r3 σ1 => (∀ σ4 : Mem, σ4 = (st σ1 34 0 r3) → K (0 : Int32) σ4)) (fun E9 σ9 => (E9 = "java/lang/IllegalArgumentException" ∧ K (1 : Int32) σ9) ∨ (E9 = "java/lang/UnsupportedOperationException" ∧ K (2 : Int32) σ9))

def wp_L_errorPosition (σ : Mem) (K : Int32 → Mem → Prop) : Prop :=
  wp_X4_errorPosition σ (fun r3 σ1 => (∀ σ4 : Mem, σ4 = (st σ1 34 0 r3) → K (0 : Int32) σ4)) (fun E9 σ9 => (E9 = "java/util/NoSuchElementException" ∧ K (1 : Int32) σ9))

def wp_L_failedCommand (σ : Mem) (K : Int32 → Mem → Prop) : Prop :=
  wp_X4_failedCommand σ (fun r3 σ1 => (∀ σ4 : Mem, σ4 = (st σ1 34 0 r3) → K (0 : Int32) σ4)) (fun E9 σ9 => (E9 = "java/util/NoSuchElementException" ∧ K (1 : Int32) σ9))

def wp_L_undo (σ : Mem) (K : Int32 → Mem → Prop) : Prop :=
  wp_X4_undo σ (fun r3 σ1 => (∀ σ4 : Mem, σ4 = (st σ1 34 0 r3) → K (0 : Int32) σ4)) (fun E9 σ9 => (E9 = "java/lang/IllegalStateException" ∧ K (1 : Int32) σ9))

def wp_L_restore (σ : Mem) (K : Int32 → Mem → Prop) : Prop :=
  wp_X4_restore σ (fun r3 σ1 => (∀ σ4 : Mem, σ4 = (st σ1 34 0 r3) → K (0 : Int32) σ4)) (fun E9 σ9 => (E9 = "java/lang/IllegalStateException" ∧ K (1 : Int32) σ9))
