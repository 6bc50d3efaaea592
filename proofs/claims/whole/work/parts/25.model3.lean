abbrev WDd (X : GX) (K : UInt64 → Mem → Prop) (p : Program) (l : Launch) (e : Env) (rm : Room) (s : State) (m : MethodId) (args : Array Value) (below : List Frame) (meth : Method) (c : Code) (A : Nat → Prop) (H : Heap) (locs : List Loc) (g : JFrame) : Prop := W p l e rm s m args below meth c H locs 0 0 (MQ below (va_Qd K (BW X A) A) args s 0 0 A) g
abbrev WFf (X : GX) (K : UInt32 → Mem → Prop) (p : Program) (l : Launch) (e : Env) (rm : Room) (s : State) (m : MethodId) (args : Array Value) (below : List Frame) (meth : Method) (c : Code) (A : Nat → Prop) (H : Heap) (locs : List Loc) (g : JFrame) : Prop := W p l e rm s m args below meth c H locs 0 0 (MQ below (va_Qf K (BW X A) A) args s 0 0 A) g
set_option maxHeartbeats 4000000 in
set_option maxRecDepth 100000 in
theorem c_X5_meanDuties (l : Launch) (X : GX) {σ : Mem} {K : UInt64 → Mem → Prop} (h : wp_X5_meanDuties σ K) : MD l X yX5_meanDuties cX5_meanDuties 1 ((Option.some Jvm.ClassFile.FieldType.double)) ({ frames := 1, cells := 0, slots := 0, locals := 22 } : Room) [.ref (ga X 25)] σ K := by
  refine ent_met (QQ := fun A => va_Qd K (BW X A) A) (by decide) (Nat.le_of_ble_eq_true rfl) ?_
  intro p e s m args below meth c A ls hx hb hr hlocks hml hown ht hK hZ hA hS hl
  have hown : s.vm.findClass "GuardRosterModel" = some m.cls := hown
  have hl : lv_has ls 1 [(0, .ref (ga X 25))] := hl
  have hJ15 : ∀ (y1 : Int32) (σ : Mem) (H : Heap) (locs : List Loc) (ls : Array Slot), WS X A s.heap σ H locs → lv_has ls 1 [(0, .ref (ga X 25))] → wpJ_X5_meanDuties_15 K y1 σ → WDd X K p l e ({ frames := 1, cells := 0, slots := 0, locals := 22 } : Room) s m args below meth c A H locs (F0 m 15 ls [.int y1, .ref (ga X 25)]) := by
    intro y1 σ H locs ls hS hl h
    unfold wpJ_X5_meanDuties_15 at h
    refine k_VI (As := [.int y1]) (rest := []) (c_X5_fails l X h) mf_X5_fails lk1199 hx hb hml hown ht hK hZ hS hA 25 5 rfl rfl rfl ⟨rfl, rfl⟩ ⟨Nat.le_of_ble_eq_true rfl, Nat.le_of_ble_eq_true rfl⟩ rfl hl.1 rfl (Nat.le_of_ble_eq_true rfl) ⟨Nat.le_of_ble_eq_true rfl, Nat.le_of_ble_eq_true rfl⟩ ddX5_meanDuties_15 (fun r3 σ2 H locs hS h => ?_)
    refine lv_if_eq (tgt := 25) hx hb ddX5_meanDuties_18 (by decide) (fun c4 => ?_) (fun c4 => ?_)
    · replace h := h.1 c4
      refine lv_aload_n hx hb ddX5_meanDuties_25 rfl (lv_at hl 0 rfl) ?_
      refine k_VI (As := []) (rest := []) (c_X5_allDuties l X h) mf_X5_allDuties lk1333 hx hb hml hown ht hK hZ hS hA 25 5 rfl rfl rfl ⟨rfl, rfl⟩ ⟨Nat.le_of_ble_eq_true rfl, Nat.le_of_ble_eq_true rfl⟩ rfl hl.1 rfl (Nat.le_of_ble_eq_true rfl) ⟨Nat.le_of_ble_eq_true rfl, Nat.le_of_ble_eq_true rfl⟩ ddX5_meanDuties_26 (fun r6 σ5 H locs hS h => ?_)
      refine lv_i2d hx hb ddX5_meanDuties_29 ?_
      refine lv_aload_n hx hb ddX5_meanDuties_30 rfl (lv_at hl 0 rfl) ?_
      refine get_25_0 hx hb hown ht hK hS lk1124 ddX5_meanDuties_31 ?_
      refine lv_iconst (v := (1 : Int32)) hx hb ddX5_meanDuties_34 (by decide) ?_
      refine aldk_26 hx hb hK hS 1 (by unfold vp_in; decide) rfl ddX5_meanDuties_35 ?_
      refine lv_i2d hx hb ddX5_meanDuties_36 ?_
      refine lv_ddiv hx hb ddX5_meanDuties_37 h.1 ?_
      replace h := h.2
      exact k_dret hx hb hr hlocks hK hS h ddX5_meanDuties_38
    · replace h := h.2 c4
      refine lv_dconst0 hx hb ddX5_meanDuties_21 ?_
      refine lv_goto (tgt := 38) hx hb ddX5_meanDuties_22 (by decide) ?_
      exact k_dret hx hb hr hlocks hK hS h ddX5_meanDuties_38
  unfold wp_X5_meanDuties at h
  refine lv_aload_n hx hb ddX5_meanDuties_0 rfl (lv_at hl 0 rfl) ?_
  refine lv_aload_n hx hb ddX5_meanDuties_1 rfl (lv_at hl 0 rfl) ?_
  refine get_25_0 hx hb hown ht hK hS lk1124 ddX5_meanDuties_2 ?_
  refine lv_iconst (v := (1 : Int32)) hx hb ddX5_meanDuties_5 (by decide) ?_
  refine aldk_26 hx hb hK hS 1 (by unfold vp_in; decide) rfl ddX5_meanDuties_6 ?_
  refine lv_if_ne (tgt := 14) hx hb ddX5_meanDuties_7 (by decide) (fun c1 => ?_) (fun c1 => ?_)
  · replace h := h.1 c1
    refine lv_iconst (v := (0 : Int32)) hx hb ddX5_meanDuties_14 (by decide) ?_
    exact hJ15 _ _ _ _ _ hS (lv_sub hl [0] rfl) h
  · replace h := h.2 c1
    refine lv_iconst (v := (1 : Int32)) hx hb ddX5_meanDuties_10 (by decide) ?_
    refine lv_goto (tgt := 15) hx hb ddX5_meanDuties_11 (by decide) ?_
    exact hJ15 _ _ _ _ _ hS (lv_sub hl [0] rfl) h

set_option maxHeartbeats 4000000 in
set_option maxRecDepth 100000 in
theorem c_X5_coveredFraction (l : Launch) (X : GX) {σ : Mem} {K : UInt32 → Mem → Prop} (h : wp_X5_coveredFraction σ K) : MFl l X yX5_coveredFraction cX5_coveredFraction 1 ((Option.some Jvm.ClassFile.FieldType.float)) ({ frames := 1, cells := 0, slots := 0, locals := 22 } : Room) [.ref (ga X 25)] σ K := by
  refine ent_met (QQ := fun A => va_Qf K (BW X A) A) (by decide) (Nat.le_of_ble_eq_true rfl) ?_
  intro p e s m args below meth c A ls hx hb hr hlocks hml hown ht hK hZ hA hS hl
  have hown : s.vm.findClass "GuardRosterModel" = some m.cls := hown
  have hl : lv_has ls 1 [(0, .ref (ga X 25))] := hl
  have hJ15 : ∀ (y1 : Int32) (σ : Mem) (H : Heap) (locs : List Loc) (ls : Array Slot), WS X A s.heap σ H locs → lv_has ls 1 [(0, .ref (ga X 25))] → wpJ_X5_coveredFraction_15 K y1 σ → WFf X K p l e ({ frames := 1, cells := 0, slots := 0, locals := 22 } : Room) s m args below meth c A H locs (F0 m 15 ls [.int y1, .ref (ga X 25)]) := by
    intro y1 σ H locs ls hS hl h
    unfold wpJ_X5_coveredFraction_15 at h
    refine k_VI (As := [.int y1]) (rest := []) (c_X5_fails l X h) mf_X5_fails lk1199 hx hb hml hown ht hK hZ hS hA 25 5 rfl rfl rfl ⟨rfl, rfl⟩ ⟨Nat.le_of_ble_eq_true rfl, Nat.le_of_ble_eq_true rfl⟩ rfl hl.1 rfl (Nat.le_of_ble_eq_true rfl) ⟨Nat.le_of_ble_eq_true rfl, Nat.le_of_ble_eq_true rfl⟩ ddX5_coveredFraction_15 (fun r3 σ2 H locs hS h => ?_)
    refine lv_if_eq (tgt := 25) hx hb ddX5_coveredFraction_18 (by decide) (fun c4 => ?_) (fun c4 => ?_)
    · replace h := h.1 c4
      refine lv_aload_n hx hb ddX5_coveredFraction_25 rfl (lv_at hl 0 rfl) ?_
      refine k_VI (As := []) (rest := []) (c_X5_allDuties l X h) mf_X5_allDuties lk1333 hx hb hml hown ht hK hZ hS hA 25 5 rfl rfl rfl ⟨rfl, rfl⟩ ⟨Nat.le_of_ble_eq_true rfl, Nat.le_of_ble_eq_true rfl⟩ rfl hl.1 rfl (Nat.le_of_ble_eq_true rfl) ⟨Nat.le_of_ble_eq_true rfl, Nat.le_of_ble_eq_true rfl⟩ ddX5_coveredFraction_26 (fun r6 σ5 H locs hS h => ?_)
      refine lv_i2f hx hb ddX5_coveredFraction_29 ?_
      refine lv_bipush (v := (28 : Int32)) hx hb ddX5_coveredFraction_30 (by decide) ?_
      refine lv_aload_n hx hb ddX5_coveredFraction_32 rfl (lv_at hl 0 rfl) ?_
      refine get_25_0 hx hb hown ht hK hS lk1124 ddX5_coveredFraction_33 ?_
      refine lv_iconst (v := (0 : Int32)) hx hb ddX5_coveredFraction_36 (by decide) ?_
      refine aldk_26 hx hb hK hS 0 (by unfold vp_in; decide) rfl ddX5_coveredFraction_37 ?_
      refine lv_imul hx hb ddX5_coveredFraction_38 ?_
      refine lv_i2f hx hb ddX5_coveredFraction_39 ?_
      refine lv_fdiv hx hb ddX5_coveredFraction_40 h.1 ?_
      replace h := h.2
      exact k_fret hx hb hr hlocks hK hS h ddX5_coveredFraction_41
    · replace h := h.2 c4
      refine lv_fconst0 hx hb ddX5_coveredFraction_21 ?_
      refine lv_goto (tgt := 41) hx hb ddX5_coveredFraction_22 (by decide) ?_
      exact k_fret hx hb hr hlocks hK hS h ddX5_coveredFraction_41
  unfold wp_X5_coveredFraction at h
  refine lv_aload_n hx hb ddX5_coveredFraction_0 rfl (lv_at hl 0 rfl) ?_
  refine lv_aload_n hx hb ddX5_coveredFraction_1 rfl (lv_at hl 0 rfl) ?_
  refine get_25_0 hx hb hown ht hK hS lk1124 ddX5_coveredFraction_2 ?_
  refine lv_iconst (v := (0 : Int32)) hx hb ddX5_coveredFraction_5 (by decide) ?_
  refine aldk_26 hx hb hK hS 0 (by unfold vp_in; decide) rfl ddX5_coveredFraction_6 ?_
  refine lv_if_ne (tgt := 14) hx hb ddX5_coveredFraction_7 (by decide) (fun c1 => ?_) (fun c1 => ?_)
  · replace h := h.1 c1
    refine lv_iconst (v := (0 : Int32)) hx hb ddX5_coveredFraction_14 (by decide) ?_
    exact hJ15 _ _ _ _ _ hS (lv_sub hl [0] rfl) h
  · replace h := h.2 c1
    refine lv_iconst (v := (1 : Int32)) hx hb ddX5_coveredFraction_10 (by decide) ?_
    refine lv_goto (tgt := 15) hx hb ddX5_coveredFraction_11 (by decide) ?_
    exact hJ15 _ _ _ _ _ hS (lv_sub hl [0] rfl) h
