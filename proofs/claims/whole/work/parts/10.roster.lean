set_option maxHeartbeats 4000000 in
set_option maxRecDepth 100000 in
theorem c_X2_gates (l : Launch) (X : GX) {σ : Mem} {K : Int32 → Mem → Prop} (h : wp_X2_gates σ K) : MI l X yX2_gates cX2_gates 1 ((Option.some Jvm.ClassFile.FieldType.int)) ({ frames := 0, cells := 0, slots := 0, locals := 0 } : Room) [.ref (ga X 1)] σ K := by
  refine ent_met (QQ := fun A => va_Qi K (BW X A) A) (by decide) (Nat.le_of_ble_eq_true rfl) ?_
  intro p e s m args below meth c A ls hx hb hr hlocks hml hown ht hK hZ hA hS hl
  have hown : s.vm.findClass "GuardRoster$Roster" = some m.cls := hown
  have hl : lv_has ls 1 [(0, .ref (ga X 1))] := hl
  unfold wp_X2_gates at h
  refine lv_aload_n hx hb ddX2_gates_0 rfl (lv_at hl 0 rfl) ?_
  refine get_1_0 hx hb hown ht hK hS lk38 ddX2_gates_1 ?_
  refine lv_iconst (v := (0 : Int32)) hx hb ddX2_gates_4 (by decide) ?_
  refine aldk_2 hx hb hK hS 0 (by unfold vp_in; decide) rfl ddX2_gates_5 ?_
  exact k_iret hx hb hr hlocks hK hS h ddX2_gates_6

set_option maxHeartbeats 4000000 in
set_option maxRecDepth 100000 in
theorem c_X2_guards (l : Launch) (X : GX) {σ : Mem} {K : Int32 → Mem → Prop} (h : wp_X2_guards σ K) : MI l X yX2_guards cX2_guards 1 ((Option.some Jvm.ClassFile.FieldType.int)) ({ frames := 0, cells := 0, slots := 0, locals := 0 } : Room) [.ref (ga X 1)] σ K := by
  refine ent_met (QQ := fun A => va_Qi K (BW X A) A) (by decide) (Nat.le_of_ble_eq_true rfl) ?_
  intro p e s m args below meth c A ls hx hb hr hlocks hml hown ht hK hZ hA hS hl
  have hown : s.vm.findClass "GuardRoster$Roster" = some m.cls := hown
  have hl : lv_has ls 1 [(0, .ref (ga X 1))] := hl
  unfold wp_X2_guards at h
  refine lv_aload_n hx hb ddX2_guards_0 rfl (lv_at hl 0 rfl) ?_
  refine get_1_0 hx hb hown ht hK hS lk38 ddX2_guards_1 ?_
  refine lv_iconst (v := (1 : Int32)) hx hb ddX2_guards_4 (by decide) ?_
  refine aldk_2 hx hb hK hS 1 (by unfold vp_in; decide) rfl ddX2_guards_5 ?_
  exact k_iret hx hb hr hlocks hK hS h ddX2_guards_6

set_option maxHeartbeats 4000000 in
set_option maxRecDepth 100000 in
theorem c_X2_rationsLeft (l : Launch) (X : GX) {σ : Mem} {K : Int32 → Mem → Prop} (h : wp_X2_rationsLeft σ K) : MI l X yX2_rationsLeft cX2_rationsLeft 1 ((Option.some Jvm.ClassFile.FieldType.int)) ({ frames := 0, cells := 0, slots := 0, locals := 0 } : Room) [.ref (ga X 1)] σ K := by
  refine ent_met (QQ := fun A => va_Qi K (BW X A) A) (by decide) (Nat.le_of_ble_eq_true rfl) ?_
  intro p e s m args below meth c A ls hx hb hr hlocks hml hown ht hK hZ hA hS hl
  have hown : s.vm.findClass "GuardRoster$Roster" = some m.cls := hown
  have hl : lv_has ls 1 [(0, .ref (ga X 1))] := hl
  unfold wp_X2_rationsLeft at h
  refine lv_aload_n hx hb ddX2_rationsLeft_0 rfl (lv_at hl 0 rfl) ?_
  refine get_1_0 hx hb hown ht hK hS lk38 ddX2_rationsLeft_1 ?_
  refine lv_iconst (v := (2 : Int32)) hx hb ddX2_rationsLeft_4 (by decide) ?_
  refine aldk_2 hx hb hK hS 2 (by unfold vp_in; decide) rfl ddX2_rationsLeft_5 ?_
  exact k_iret hx hb hr hlocks hK hS h ddX2_rationsLeft_6

set_option maxHeartbeats 4000000 in
set_option maxRecDepth 100000 in
theorem c_X2_now (l : Launch) (X : GX) {σ : Mem} {K : Int32 → Mem → Prop} (h : wp_X2_now σ K) : MI l X yX2_now cX2_now 1 ((Option.some Jvm.ClassFile.FieldType.int)) ({ frames := 0, cells := 0, slots := 0, locals := 0 } : Room) [.ref (ga X 1)] σ K := by
  refine ent_met (QQ := fun A => va_Qi K (BW X A) A) (by decide) (Nat.le_of_ble_eq_true rfl) ?_
  intro p e s m args below meth c A ls hx hb hr hlocks hml hown ht hK hZ hA hS hl
  have hown : s.vm.findClass "GuardRoster$Roster" = some m.cls := hown
  have hl : lv_has ls 1 [(0, .ref (ga X 1))] := hl
  unfold wp_X2_now at h
  refine lv_aload_n hx hb ddX2_now_0 rfl (lv_at hl 0 rfl) ?_
  refine get_1_0 hx hb hown ht hK hS lk38 ddX2_now_1 ?_
  refine lv_iconst (v := (3 : Int32)) hx hb ddX2_now_4 (by decide) ?_
  refine aldk_2 hx hb hK hS 3 (by unfold vp_in; decide) rfl ddX2_now_5 ?_
  exact k_iret hx hb hr hlocks hK hS h ddX2_now_6

set_option maxHeartbeats 4000000 in
set_option maxRecDepth 100000 in
theorem c_X2_isGate (l : Launch) (X : GX) {x1 : Int32} {σ : Mem} {K : Int32 → Mem → Prop} (h : wp_X2_isGate x1 σ K) : MI l X yX2_isGate cX2_isGate 2 ((Option.some Jvm.ClassFile.FieldType.boolean)) ({ frames := 0, cells := 0, slots := 0, locals := 0 } : Room) [.ref (ga X 1), .int x1] σ K := by
  refine ent_met (QQ := fun A => va_Qi K (BW X A) A) (by decide) (Nat.le_of_ble_eq_true rfl) ?_
  intro p e s m args below meth c A ls hx hb hr hlocks hml hown ht hK hZ hA hS hl
  have hown : s.vm.findClass "GuardRoster$Roster" = some m.cls := hown
  have hl : lv_has ls 2 [(0, .ref (ga X 1)), (1, .int x1)] := hl
  unfold wp_X2_isGate at h
  refine lv_iload_n hx hb ddX2_isGate_0 rfl (lv_at hl 1 rfl) ?_
  refine lv_if_lt (tgt := 23) hx hb ddX2_isGate_1 (by decide) (fun c1 => ?_) (fun c1 => ?_)
  · replace h := h.1 c1
    refine lv_iconst (v := (0 : Int32)) hx hb ddX2_isGate_23 (by decide) ?_
    exact k_zret hx hb hr hlocks hK hS rfl h ddX2_isGate_24
  · replace h := h.2 c1
    refine lv_iload_n hx hb ddX2_isGate_4 rfl (lv_at hl 1 rfl) ?_
    refine lv_iconst (v := (5 : Int32)) hx hb ddX2_isGate_5 (by decide) ?_
    refine lv_icmp_ge (tgt := 23) hx hb ddX2_isGate_6 (by decide) (fun c2 => ?_) (fun c2 => ?_)
    · replace h := h.1 c2
      refine lv_iconst (v := (0 : Int32)) hx hb ddX2_isGate_23 (by decide) ?_
      exact k_zret hx hb hr hlocks hK hS rfl h ddX2_isGate_24
    · replace h := h.2 c2
      refine lv_iload_n hx hb ddX2_isGate_9 rfl (lv_at hl 1 rfl) ?_
      refine lv_aload_n hx hb ddX2_isGate_10 rfl (lv_at hl 0 rfl) ?_
      refine get_1_0 hx hb hown ht hK hS lk38 ddX2_isGate_11 ?_
      refine lv_iconst (v := (0 : Int32)) hx hb ddX2_isGate_14 (by decide) ?_
      refine aldk_2 hx hb hK hS 0 (by unfold vp_in; decide) rfl ddX2_isGate_15 ?_
      refine lv_icmp_ge (tgt := 23) hx hb ddX2_isGate_16 (by decide) (fun c3 => ?_) (fun c3 => ?_)
      · replace h := h.1 c3
        refine lv_iconst (v := (0 : Int32)) hx hb ddX2_isGate_23 (by decide) ?_
        exact k_zret hx hb hr hlocks hK hS rfl h ddX2_isGate_24
      · replace h := h.2 c3
        refine lv_iconst (v := (1 : Int32)) hx hb ddX2_isGate_19 (by decide) ?_
        refine lv_goto (tgt := 24) hx hb ddX2_isGate_20 (by decide) ?_
        exact k_zret hx hb hr hlocks hK hS rfl h ddX2_isGate_24

set_option maxHeartbeats 4000000 in
set_option maxRecDepth 100000 in
theorem c_X2_isGuard (l : Launch) (X : GX) {x1 : Int32} {σ : Mem} {K : Int32 → Mem → Prop} (h : wp_X2_isGuard x1 σ K) : MI l X yX2_isGuard cX2_isGuard 2 ((Option.some Jvm.ClassFile.FieldType.boolean)) ({ frames := 0, cells := 0, slots := 0, locals := 0 } : Room) [.ref (ga X 1), .int x1] σ K := by
  refine ent_met (QQ := fun A => va_Qi K (BW X A) A) (by decide) (Nat.le_of_ble_eq_true rfl) ?_
  intro p e s m args below meth c A ls hx hb hr hlocks hml hown ht hK hZ hA hS hl
  have hown : s.vm.findClass "GuardRoster$Roster" = some m.cls := hown
  have hl : lv_has ls 2 [(0, .ref (ga X 1)), (1, .int x1)] := hl
  unfold wp_X2_isGuard at h
  refine lv_iload_n hx hb ddX2_isGuard_0 rfl (lv_at hl 1 rfl) ?_
  refine lv_if_lt (tgt := 24) hx hb ddX2_isGuard_1 (by decide) (fun c1 => ?_) (fun c1 => ?_)
  · replace h := h.1 c1
    refine lv_iconst (v := (0 : Int32)) hx hb ddX2_isGuard_24 (by decide) ?_
    exact k_zret hx hb hr hlocks hK hS rfl h ddX2_isGuard_25
  · replace h := h.2 c1
    refine lv_iload_n hx hb ddX2_isGuard_4 rfl (lv_at hl 1 rfl) ?_
    refine lv_bipush (v := (10 : Int32)) hx hb ddX2_isGuard_5 (by decide) ?_
    refine lv_icmp_ge (tgt := 24) hx hb ddX2_isGuard_7 (by decide) (fun c2 => ?_) (fun c2 => ?_)
    · replace h := h.1 c2
      refine lv_iconst (v := (0 : Int32)) hx hb ddX2_isGuard_24 (by decide) ?_
      exact k_zret hx hb hr hlocks hK hS rfl h ddX2_isGuard_25
    · replace h := h.2 c2
      refine lv_iload_n hx hb ddX2_isGuard_10 rfl (lv_at hl 1 rfl) ?_
      refine lv_aload_n hx hb ddX2_isGuard_11 rfl (lv_at hl 0 rfl) ?_
      refine get_1_0 hx hb hown ht hK hS lk38 ddX2_isGuard_12 ?_
      refine lv_iconst (v := (1 : Int32)) hx hb ddX2_isGuard_15 (by decide) ?_
      refine aldk_2 hx hb hK hS 1 (by unfold vp_in; decide) rfl ddX2_isGuard_16 ?_
      refine lv_icmp_ge (tgt := 24) hx hb ddX2_isGuard_17 (by decide) (fun c3 => ?_) (fun c3 => ?_)
      · replace h := h.1 c3
        refine lv_iconst (v := (0 : Int32)) hx hb ddX2_isGuard_24 (by decide) ?_
        exact k_zret hx hb hr hlocks hK hS rfl h ddX2_isGuard_25
      · replace h := h.2 c3
        refine lv_iconst (v := (1 : Int32)) hx hb ddX2_isGuard_20 (by decide) ?_
        refine lv_goto (tgt := 25) hx hb ddX2_isGuard_21 (by decide) ?_
        exact k_zret hx hb hr hlocks hK hS rfl h ddX2_isGuard_25

set_option maxHeartbeats 4000000 in
set_option maxRecDepth 100000 in
theorem c_X2_isSlot (l : Launch) (X : GX) {x1 : Int32} {σ : Mem} {K : Int32 → Mem → Prop} (h : wp_X2_isSlot x1 σ K) : MI l X yX2_isSlot cX2_isSlot 2 ((Option.some Jvm.ClassFile.FieldType.boolean)) ({ frames := 0, cells := 0, slots := 0, locals := 0 } : Room) [.ref (ga X 1), .int x1] σ K := by
  refine ent_met (QQ := fun A => va_Qi K (BW X A) A) (by decide) (Nat.le_of_ble_eq_true rfl) ?_
  intro p e s m args below meth c A ls hx hb hr hlocks hml hown ht hK hZ hA hS hl
  have hown : s.vm.findClass "GuardRoster$Roster" = some m.cls := hown
  have hl : lv_has ls 2 [(0, .ref (ga X 1)), (1, .int x1)] := hl
  unfold wp_X2_isSlot at h
  refine lv_iload_n hx hb ddX2_isSlot_0 rfl (lv_at hl 1 rfl) ?_
  refine lv_if_lt (tgt := 14) hx hb ddX2_isSlot_1 (by decide) (fun c1 => ?_) (fun c1 => ?_)
  · replace h := h.1 c1
    refine lv_iconst (v := (0 : Int32)) hx hb ddX2_isSlot_14 (by decide) ?_
    exact k_zret hx hb hr hlocks hK hS rfl h ddX2_isSlot_15
  · replace h := h.2 c1
    refine lv_iload_n hx hb ddX2_isSlot_4 rfl (lv_at hl 1 rfl) ?_
    refine lv_bipush (v := (28 : Int32)) hx hb ddX2_isSlot_5 (by decide) ?_
    refine lv_icmp_ge (tgt := 14) hx hb ddX2_isSlot_7 (by decide) (fun c2 => ?_) (fun c2 => ?_)
    · replace h := h.1 c2
      refine lv_iconst (v := (0 : Int32)) hx hb ddX2_isSlot_14 (by decide) ?_
      exact k_zret hx hb hr hlocks hK hS rfl h ddX2_isSlot_15
    · replace h := h.2 c2
      refine lv_iconst (v := (1 : Int32)) hx hb ddX2_isSlot_10 (by decide) ?_
      refine lv_goto (tgt := 15) hx hb ddX2_isSlot_11 (by decide) ?_
      exact k_zret hx hb hr hlocks hK hS rfl h ddX2_isSlot_15

set_option maxHeartbeats 4000000 in
set_option maxRecDepth 100000 in
theorem c_X2_hasPassed (l : Launch) (X : GX) {x1 : Int32} {σ : Mem} {K : Int32 → Mem → Prop} (h : wp_X2_hasPassed x1 σ K) : MI l X yX2_hasPassed cX2_hasPassed 2 ((Option.some Jvm.ClassFile.FieldType.boolean)) ({ frames := 0, cells := 0, slots := 0, locals := 0 } : Room) [.ref (ga X 1), .int x1] σ K := by
  refine ent_met (QQ := fun A => va_Qi K (BW X A) A) (by decide) (Nat.le_of_ble_eq_true rfl) ?_
  intro p e s m args below meth c A ls hx hb hr hlocks hml hown ht hK hZ hA hS hl
  have hown : s.vm.findClass "GuardRoster$Roster" = some m.cls := hown
  have hl : lv_has ls 2 [(0, .ref (ga X 1)), (1, .int x1)] := hl
  unfold wp_X2_hasPassed at h
  refine lv_iload_n hx hb ddX2_hasPassed_0 rfl (lv_at hl 1 rfl) ?_
  refine lv_aload_n hx hb ddX2_hasPassed_1 rfl (lv_at hl 0 rfl) ?_
  refine get_1_0 hx hb hown ht hK hS lk38 ddX2_hasPassed_2 ?_
  refine lv_iconst (v := (3 : Int32)) hx hb ddX2_hasPassed_5 (by decide) ?_
  refine aldk_2 hx hb hK hS 3 (by unfold vp_in; decide) rfl ddX2_hasPassed_6 ?_
  refine lv_icmp_ge (tgt := 14) hx hb ddX2_hasPassed_7 (by decide) (fun c1 => ?_) (fun c1 => ?_)
  · replace h := h.1 c1
    refine lv_iconst (v := (0 : Int32)) hx hb ddX2_hasPassed_14 (by decide) ?_
    exact k_zret hx hb hr hlocks hK hS rfl h ddX2_hasPassed_15
  · replace h := h.2 c1
    refine lv_iconst (v := (1 : Int32)) hx hb ddX2_hasPassed_10 (by decide) ?_
    refine lv_goto (tgt := 15) hx hb ddX2_hasPassed_11 (by decide) ?_
    exact k_zret hx hb hr hlocks hK hS rfl h ddX2_hasPassed_15

set_option maxHeartbeats 4000000 in
set_option maxRecDepth 100000 in
theorem c_X2_rankNeededAt (l : Launch) (X : GX) {x1 : Int32} {σ : Mem} {K : Int32 → Mem → Prop} (h : wp_X2_rankNeededAt x1 σ K) : MI l X yX2_rankNeededAt cX2_rankNeededAt 2 ((Option.some Jvm.ClassFile.FieldType.int)) ({ frames := 1, cells := 0, slots := 0, locals := 21 } : Room) [.ref (ga X 1), .int x1] σ K := by
  refine ent_met (QQ := fun A => va_Qi K (BW X A) A) (by decide) (Nat.le_of_ble_eq_true rfl) ?_
  intro p e s m args below meth c A ls hx hb hr hlocks hml hown ht hK hZ hA hS hl
  have hown : s.vm.findClass "GuardRoster$Roster" = some m.cls := hown
  have hl : lv_has ls 2 [(0, .ref (ga X 1)), (1, .int x1)] := hl
  unfold wp_X2_rankNeededAt at h
  refine lv_aload_n hx hb ddX2_rankNeededAt_0 rfl (lv_at hl 0 rfl) ?_
  refine lv_iload_n hx hb ddX2_rankNeededAt_1 rfl (lv_at hl 1 rfl) ?_
  refine k_VI (As := [.int x1]) (rest := []) (c_X2_isGate l X h) mf_X2_isGate lk182 hx hb hml hown ht hK hZ hS hA 1 1 rfl rfl rfl ⟨rfl, rfl⟩ ⟨Nat.le_of_ble_eq_true rfl, Nat.le_of_ble_eq_true rfl⟩ rfl hl.1 rfl (Nat.le_of_ble_eq_true rfl) ⟨Nat.le_of_ble_eq_true rfl, Nat.le_of_ble_eq_true rfl⟩ ddX2_rankNeededAt_2 (fun r2 σ1 H locs hS h => ?_)
  refine lv_if_eq (tgt := 19) hx hb ddX2_rankNeededAt_5 (by decide) (fun c3 => ?_) (fun c3 => ?_)
  · replace h := h.1 c3
    refine lv_iconst (v := (0 : Int32)) hx hb ddX2_rankNeededAt_19 (by decide) ?_
    exact k_iret hx hb hr hlocks hK hS h ddX2_rankNeededAt_20
  · replace h := h.2 c3
    refine lv_aload_n hx hb ddX2_rankNeededAt_8 rfl (lv_at hl 0 rfl) ?_
    refine get_1_0 hx hb hown ht hK hS lk38 ddX2_rankNeededAt_9 ?_
    refine lv_iconst (v := (4 : Int32)) hx hb ddX2_rankNeededAt_12 (by decide) ?_
    refine lv_iload_n hx hb ddX2_rankNeededAt_13 rfl (lv_at hl 1 rfl) ?_
    refine lv_iadd hx hb ddX2_rankNeededAt_14 ?_
    refine ald_2 hx hb hK hS h.1 ddX2_rankNeededAt_15 ?_
    replace h := h.2
    refine lv_goto (tgt := 20) hx hb ddX2_rankNeededAt_16 (by decide) ?_
    exact k_iret hx hb hr hlocks hK hS h ddX2_rankNeededAt_20

set_option maxHeartbeats 4000000 in
set_option maxRecDepth 100000 in
theorem c_X2_rankOf (l : Launch) (X : GX) {x1 : Int32} {σ : Mem} {K : Int32 → Mem → Prop} (h : wp_X2_rankOf x1 σ K) : MI l X yX2_rankOf cX2_rankOf 2 ((Option.some Jvm.ClassFile.FieldType.int)) ({ frames := 1, cells := 0, slots := 0, locals := 21 } : Room) [.ref (ga X 1), .int x1] σ K := by
  refine ent_met (QQ := fun A => va_Qi K (BW X A) A) (by decide) (Nat.le_of_ble_eq_true rfl) ?_
  intro p e s m args below meth c A ls hx hb hr hlocks hml hown ht hK hZ hA hS hl
  have hown : s.vm.findClass "GuardRoster$Roster" = some m.cls := hown
  have hl : lv_has ls 2 [(0, .ref (ga X 1)), (1, .int x1)] := hl
  unfold wp_X2_rankOf at h
  refine lv_aload_n hx hb ddX2_rankOf_0 rfl (lv_at hl 0 rfl) ?_
  refine lv_iload_n hx hb ddX2_rankOf_1 rfl (lv_at hl 1 rfl) ?_
  refine k_VI (As := [.int x1]) (rest := []) (c_X2_isGuard l X h) mf_X2_isGuard lk329 hx hb hml hown ht hK hZ hS hA 1 1 rfl rfl rfl ⟨rfl, rfl⟩ ⟨Nat.le_of_ble_eq_true rfl, Nat.le_of_ble_eq_true rfl⟩ rfl hl.1 rfl (Nat.le_of_ble_eq_true rfl) ⟨Nat.le_of_ble_eq_true rfl, Nat.le_of_ble_eq_true rfl⟩ ddX2_rankOf_2 (fun r2 σ1 H locs hS h => ?_)
  refine lv_if_eq (tgt := 20) hx hb ddX2_rankOf_5 (by decide) (fun c3 => ?_) (fun c3 => ?_)
  · replace h := h.1 c3
    refine lv_iconst (v := (0 : Int32)) hx hb ddX2_rankOf_20 (by decide) ?_
    exact k_iret hx hb hr hlocks hK hS h ddX2_rankOf_21
  · replace h := h.2 c3
    refine lv_aload_n hx hb ddX2_rankOf_8 rfl (lv_at hl 0 rfl) ?_
    refine get_1_0 hx hb hown ht hK hS lk38 ddX2_rankOf_9 ?_
    refine lv_bipush (v := (9 : Int32)) hx hb ddX2_rankOf_12 (by decide) ?_
    refine lv_iload_n hx hb ddX2_rankOf_14 rfl (lv_at hl 1 rfl) ?_
    refine lv_iadd hx hb ddX2_rankOf_15 ?_
    refine ald_2 hx hb hK hS h.1 ddX2_rankOf_16 ?_
    replace h := h.2
    refine lv_goto (tgt := 21) hx hb ddX2_rankOf_17 (by decide) ?_
    exact k_iret hx hb hr hlocks hK hS h ddX2_rankOf_21

set_option maxHeartbeats 4000000 in
set_option maxRecDepth 100000 in
theorem c_X2_faintsOf (l : Launch) (X : GX) {x1 : Int32} {σ : Mem} {K : Int32 → Mem → Prop} (h : wp_X2_faintsOf x1 σ K) : MI l X yX2_faintsOf cX2_faintsOf 2 ((Option.some Jvm.ClassFile.FieldType.int)) ({ frames := 1, cells := 0, slots := 0, locals := 21 } : Room) [.ref (ga X 1), .int x1] σ K := by
  refine ent_met (QQ := fun A => va_Qi K (BW X A) A) (by decide) (Nat.le_of_ble_eq_true rfl) ?_
  intro p e s m args below meth c A ls hx hb hr hlocks hml hown ht hK hZ hA hS hl
  have hown : s.vm.findClass "GuardRoster$Roster" = some m.cls := hown
  have hl : lv_has ls 2 [(0, .ref (ga X 1)), (1, .int x1)] := hl
  unfold wp_X2_faintsOf at h
  refine lv_aload_n hx hb ddX2_faintsOf_0 rfl (lv_at hl 0 rfl) ?_
  refine lv_iload_n hx hb ddX2_faintsOf_1 rfl (lv_at hl 1 rfl) ?_
  refine k_VI (As := [.int x1]) (rest := []) (c_X2_isGuard l X h) mf_X2_isGuard lk329 hx hb hml hown ht hK hZ hS hA 1 1 rfl rfl rfl ⟨rfl, rfl⟩ ⟨Nat.le_of_ble_eq_true rfl, Nat.le_of_ble_eq_true rfl⟩ rfl hl.1 rfl (Nat.le_of_ble_eq_true rfl) ⟨Nat.le_of_ble_eq_true rfl, Nat.le_of_ble_eq_true rfl⟩ ddX2_faintsOf_2 (fun r2 σ1 H locs hS h => ?_)
  refine lv_if_eq (tgt := 20) hx hb ddX2_faintsOf_5 (by decide) (fun c3 => ?_) (fun c3 => ?_)
  · replace h := h.1 c3
    refine lv_iconst (v := (0 : Int32)) hx hb ddX2_faintsOf_20 (by decide) ?_
    exact k_iret hx hb hr hlocks hK hS h ddX2_faintsOf_21
  · replace h := h.2 c3
    refine lv_aload_n hx hb ddX2_faintsOf_8 rfl (lv_at hl 0 rfl) ?_
    refine get_1_0 hx hb hown ht hK hS lk38 ddX2_faintsOf_9 ?_
    refine lv_bipush (v := (19 : Int32)) hx hb ddX2_faintsOf_12 (by decide) ?_
    refine lv_iload_n hx hb ddX2_faintsOf_14 rfl (lv_at hl 1 rfl) ?_
    refine lv_iadd hx hb ddX2_faintsOf_15 ?_
    refine ald_2 hx hb hK hS h.1 ddX2_faintsOf_16 ?_
    replace h := h.2
    refine lv_goto (tgt := 21) hx hb ddX2_faintsOf_17 (by decide) ?_
    exact k_iret hx hb hr hlocks hK hS h ddX2_faintsOf_21

set_option maxHeartbeats 4000000 in
set_option maxRecDepth 100000 in
theorem c_X2_appendGate (l : Launch) (X : GX) {x1 : Int32} {σ : Mem} {K : Int32 → Mem → Prop} (h : wp_X2_appendGate x1 σ K) : MI l X yX2_appendGate cX2_appendGate 3 ((Option.some Jvm.ClassFile.FieldType.int)) ({ frames := 0, cells := 0, slots := 0, locals := 0 } : Room) [.ref (ga X 1), .int x1] σ K := by
  refine ent_met (QQ := fun A => va_Qi K (BW X A) A) (by decide) (Nat.le_of_ble_eq_true rfl) ?_
  intro p e s m args below meth c A ls hx hb hr hlocks hml hown ht hK hZ hA hS hl
  have hown : s.vm.findClass "GuardRoster$Roster" = some m.cls := hown
  have hl : lv_has ls 3 [(0, .ref (ga X 1)), (1, .int x1)] := hl
  unfold wp_X2_appendGate at h
  refine lv_aload_n hx hb ddX2_appendGate_0 rfl (lv_at hl 0 rfl) ?_
  refine get_1_0 hx hb hown ht hK hS lk38 ddX2_appendGate_1 ?_
  refine lv_iconst (v := (0 : Int32)) hx hb ddX2_appendGate_4 (by decide) ?_
  refine aldk_2 hx hb hK hS 0 (by unfold vp_in; decide) rfl ddX2_appendGate_5 ?_
  refine lv_topi (fun v1 ev1 => ?_)
  replace h := h v1 ev1
  refine lv_istore_n (lv' := [(2, .int v1), (0, .ref (ga X 1)), (1, .int x1)]) hx hb ddX2_appendGate_6 rfl hl (by decide) rfl (fun ls hl => ?_)
  refine lv_iload_n hx hb ddX2_appendGate_7 rfl (lv_at hl 0 rfl) ?_
  refine lv_if_lt (tgt := 34) hx hb ddX2_appendGate_8 (by decide) (fun c2 => ?_) (fun c2 => ?_)
  · replace h := h.1 c2
    refine lv_iload_n hx hb ddX2_appendGate_34 rfl (lv_at hl 0 rfl) ?_
    exact k_iret hx hb hr hlocks hK hS h ddX2_appendGate_35
  · replace h := h.2 c2
    refine lv_iload_n hx hb ddX2_appendGate_11 rfl (lv_at hl 0 rfl) ?_
    refine lv_iconst (v := (5 : Int32)) hx hb ddX2_appendGate_12 (by decide) ?_
    refine lv_icmp_ge (tgt := 34) hx hb ddX2_appendGate_13 (by decide) (fun c3 => ?_) (fun c3 => ?_)
    · replace h := h.1 c3
      refine lv_iload_n hx hb ddX2_appendGate_34 rfl (lv_at hl 0 rfl) ?_
      exact k_iret hx hb hr hlocks hK hS h ddX2_appendGate_35
    · replace h := h.2 c3
      refine lv_aload_n hx hb ddX2_appendGate_16 rfl (lv_at hl 1 rfl) ?_
      refine get_1_0 hx hb hown ht hK hS lk38 ddX2_appendGate_17 ?_
      refine lv_iconst (v := (4 : Int32)) hx hb ddX2_appendGate_20 (by decide) ?_
      refine lv_iload_n hx hb ddX2_appendGate_21 rfl (lv_at hl 0 rfl) ?_
      refine lv_iadd hx hb ddX2_appendGate_22 ?_
      refine lv_iload_n hx hb ddX2_appendGate_23 rfl (lv_at hl 2 rfl) ?_
      refine ast_2 hx hb hK hS h.1 ddX2_appendGate_24 (fun H locs hS => ?_)
      replace h := h.2
      obtain ⟨σ4, eσ4⟩ : ∃ y : Mem, y = (st σ 2 ((4 : Int32) + v1).toNatClampNeg x1) := ⟨_, rfl⟩
      rw [← eσ4] at hS
      replace h := h σ4 eσ4
      refine lv_aload_n hx hb ddX2_appendGate_25 rfl (lv_at hl 1 rfl) ?_
      refine get_1_0 hx hb hown ht hK hS lk38 ddX2_appendGate_26 ?_
      refine lv_iconst (v := (0 : Int32)) hx hb ddX2_appendGate_29 (by decide) ?_
      refine lv_iload_n hx hb ddX2_appendGate_30 rfl (lv_at hl 0 rfl) ?_
      refine lv_iconst (v := (1 : Int32)) hx hb ddX2_appendGate_31 (by decide) ?_
      refine lv_iadd hx hb ddX2_appendGate_32 ?_
      refine astk_2 hx hb hK hS 0 (by unfold vp_in; decide) rfl ddX2_appendGate_33 (fun H locs hS => ?_)
      obtain ⟨σ5, eσ5⟩ : ∃ y : Mem, y = (st σ4 2 0 (v1 + (1 : Int32))) := ⟨_, rfl⟩
      rw [← eσ5] at hS
      replace h := h σ5 eσ5
      refine lv_iload_n hx hb ddX2_appendGate_34 rfl (lv_at hl 0 rfl) ?_
      exact k_iret hx hb hr hlocks hK hS h ddX2_appendGate_35

set_option maxHeartbeats 4000000 in
set_option maxRecDepth 100000 in
theorem c_X2_appendGuard (l : Launch) (X : GX) {x1 : Int32} {σ : Mem} {K : Int32 → Mem → Prop} (h : wp_X2_appendGuard x1 σ K) : MI l X yX2_appendGuard cX2_appendGuard 3 ((Option.some Jvm.ClassFile.FieldType.int)) ({ frames := 0, cells := 0, slots := 0, locals := 0 } : Room) [.ref (ga X 1), .int x1] σ K := by
  refine ent_met (QQ := fun A => va_Qi K (BW X A) A) (by decide) (Nat.le_of_ble_eq_true rfl) ?_
  intro p e s m args below meth c A ls hx hb hr hlocks hml hown ht hK hZ hA hS hl
  have hown : s.vm.findClass "GuardRoster$Roster" = some m.cls := hown
  have hl : lv_has ls 3 [(0, .ref (ga X 1)), (1, .int x1)] := hl
  unfold wp_X2_appendGuard at h
  refine lv_aload_n hx hb ddX2_appendGuard_0 rfl (lv_at hl 0 rfl) ?_
  refine get_1_0 hx hb hown ht hK hS lk38 ddX2_appendGuard_1 ?_
  refine lv_iconst (v := (1 : Int32)) hx hb ddX2_appendGuard_4 (by decide) ?_
  refine aldk_2 hx hb hK hS 1 (by unfold vp_in; decide) rfl ddX2_appendGuard_5 ?_
  refine lv_topi (fun v1 ev1 => ?_)
  replace h := h v1 ev1
  refine lv_istore_n (lv' := [(2, .int v1), (0, .ref (ga X 1)), (1, .int x1)]) hx hb ddX2_appendGuard_6 rfl hl (by decide) rfl (fun ls hl => ?_)
  refine lv_iload_n hx hb ddX2_appendGuard_7 rfl (lv_at hl 0 rfl) ?_
  refine lv_if_lt (tgt := 36) hx hb ddX2_appendGuard_8 (by decide) (fun c2 => ?_) (fun c2 => ?_)
  · replace h := h.1 c2
    refine lv_iload_n hx hb ddX2_appendGuard_36 rfl (lv_at hl 0 rfl) ?_
    exact k_iret hx hb hr hlocks hK hS h ddX2_appendGuard_37
  · replace h := h.2 c2
    refine lv_iload_n hx hb ddX2_appendGuard_11 rfl (lv_at hl 0 rfl) ?_
    refine lv_bipush (v := (10 : Int32)) hx hb ddX2_appendGuard_12 (by decide) ?_
    refine lv_icmp_ge (tgt := 36) hx hb ddX2_appendGuard_14 (by decide) (fun c3 => ?_) (fun c3 => ?_)
    · replace h := h.1 c3
      refine lv_iload_n hx hb ddX2_appendGuard_36 rfl (lv_at hl 0 rfl) ?_
      exact k_iret hx hb hr hlocks hK hS h ddX2_appendGuard_37
    · replace h := h.2 c3
      refine lv_aload_n hx hb ddX2_appendGuard_17 rfl (lv_at hl 1 rfl) ?_
      refine get_1_0 hx hb hown ht hK hS lk38 ddX2_appendGuard_18 ?_
      refine lv_bipush (v := (9 : Int32)) hx hb ddX2_appendGuard_21 (by decide) ?_
      refine lv_iload_n hx hb ddX2_appendGuard_23 rfl (lv_at hl 0 rfl) ?_
      refine lv_iadd hx hb ddX2_appendGuard_24 ?_
      refine lv_iload_n hx hb ddX2_appendGuard_25 rfl (lv_at hl 2 rfl) ?_
      refine ast_2 hx hb hK hS h.1 ddX2_appendGuard_26 (fun H locs hS => ?_)
      replace h := h.2
      obtain ⟨σ4, eσ4⟩ : ∃ y : Mem, y = (st σ 2 ((9 : Int32) + v1).toNatClampNeg x1) := ⟨_, rfl⟩
      rw [← eσ4] at hS
      replace h := h σ4 eσ4
      refine lv_aload_n hx hb ddX2_appendGuard_27 rfl (lv_at hl 1 rfl) ?_
      refine get_1_0 hx hb hown ht hK hS lk38 ddX2_appendGuard_28 ?_
      refine lv_iconst (v := (1 : Int32)) hx hb ddX2_appendGuard_31 (by decide) ?_
      refine lv_iload_n hx hb ddX2_appendGuard_32 rfl (lv_at hl 0 rfl) ?_
      refine lv_iconst (v := (1 : Int32)) hx hb ddX2_appendGuard_33 (by decide) ?_
      refine lv_iadd hx hb ddX2_appendGuard_34 ?_
      refine astk_2 hx hb hK hS 1 (by unfold vp_in; decide) rfl ddX2_appendGuard_35 (fun H locs hS => ?_)
      obtain ⟨σ5, eσ5⟩ : ∃ y : Mem, y = (st σ4 2 1 (v1 + (1 : Int32))) := ⟨_, rfl⟩
      rw [← eσ5] at hS
      replace h := h σ5 eσ5
      refine lv_iload_n hx hb ddX2_appendGuard_36 rfl (lv_at hl 0 rfl) ?_
      exact k_iret hx hb hr hlocks hK hS h ddX2_appendGuard_37

set_option maxHeartbeats 4000000 in
set_option maxRecDepth 100000 in
theorem c_X2_guardOn (l : Launch) (X : GX) {x1 x2 : Int32} {σ : Mem} {K : Int32 → Mem → Prop} (h : wp_X2_guardOn x1 x2 σ K) : MI l X yX2_guardOn cX2_guardOn 3 ((Option.some Jvm.ClassFile.FieldType.int)) ({ frames := 1, cells := 0, slots := 0, locals := 21 } : Room) [.ref (ga X 1), .int x1, .int x2] σ K := by
  refine ent_met (QQ := fun A => va_Qi K (BW X A) A) (by decide) (Nat.le_of_ble_eq_true rfl) ?_
  intro p e s m args below meth c A ls hx hb hr hlocks hml hown ht hK hZ hA hS hl
  have hown : s.vm.findClass "GuardRoster$Roster" = some m.cls := hown
  have hl : lv_has ls 3 [(0, .ref (ga X 1)), (1, .int x1), (2, .int x2)] := hl
  unfold wp_X2_guardOn at h
  refine lv_aload_n hx hb ddX2_guardOn_0 rfl (lv_at hl 0 rfl) ?_
  refine lv_iload_n hx hb ddX2_guardOn_1 rfl (lv_at hl 1 rfl) ?_
  refine k_VI (As := [.int x1]) (rest := []) (c_X2_isGate l X h) mf_X2_isGate lk182 hx hb hml hown ht hK hZ hS hA 1 1 rfl rfl rfl ⟨rfl, rfl⟩ ⟨Nat.le_of_ble_eq_true rfl, Nat.le_of_ble_eq_true rfl⟩ rfl hl.1 rfl (Nat.le_of_ble_eq_true rfl) ⟨Nat.le_of_ble_eq_true rfl, Nat.le_of_ble_eq_true rfl⟩ ddX2_guardOn_2 (fun r2 σ1 H locs hS h => ?_)
  refine lv_if_eq (tgt := 35) hx hb ddX2_guardOn_5 (by decide) (fun c3 => ?_) (fun c3 => ?_)
  · replace h := h.1 c3
    refine lv_iconst (v := (-1 : Int32)) hx hb ddX2_guardOn_35 (by decide) ?_
    exact k_iret hx hb hr hlocks hK hS h ddX2_guardOn_36
  · replace h := h.2 c3
    refine lv_aload_n hx hb ddX2_guardOn_8 rfl (lv_at hl 0 rfl) ?_
    refine lv_iload_n hx hb ddX2_guardOn_9 rfl (lv_at hl 2 rfl) ?_
    refine k_VI (As := [.int x2]) (rest := []) (c_X2_isSlot l X h) mf_X2_isSlot lk186 hx hb hml hown ht hK hZ hS hA 1 1 rfl rfl rfl ⟨rfl, rfl⟩ ⟨Nat.le_of_ble_eq_true rfl, Nat.le_of_ble_eq_true rfl⟩ rfl hl.1 rfl (Nat.le_of_ble_eq_true rfl) ⟨Nat.le_of_ble_eq_true rfl, Nat.le_of_ble_eq_true rfl⟩ ddX2_guardOn_10 (fun r5 σ4 H locs hS h => ?_)
    refine lv_if_eq (tgt := 35) hx hb ddX2_guardOn_13 (by decide) (fun c6 => ?_) (fun c6 => ?_)
    · replace h := h.1 c6
      refine lv_iconst (v := (-1 : Int32)) hx hb ddX2_guardOn_35 (by decide) ?_
      exact k_iret hx hb hr hlocks hK hS h ddX2_guardOn_36
    · replace h := h.2 c6
      refine lv_aload_n hx hb ddX2_guardOn_16 rfl (lv_at hl 0 rfl) ?_
      refine get_1_0 hx hb hown ht hK hS lk38 ddX2_guardOn_17 ?_
      refine lv_bipush (v := (39 : Int32)) hx hb ddX2_guardOn_20 (by decide) ?_
      refine lv_iload_n hx hb ddX2_guardOn_22 rfl (lv_at hl 1 rfl) ?_
      refine lv_bipush (v := (28 : Int32)) hx hb ddX2_guardOn_23 (by decide) ?_
      refine lv_imul hx hb ddX2_guardOn_25 ?_
      refine lv_iadd hx hb ddX2_guardOn_26 ?_
      refine lv_iload_n hx hb ddX2_guardOn_27 rfl (lv_at hl 2 rfl) ?_
      refine lv_iadd hx hb ddX2_guardOn_28 ?_
      refine ald_2 hx hb hK hS h.1 ddX2_guardOn_29 ?_
      replace h := h.2
      refine lv_iconst (v := (1 : Int32)) hx hb ddX2_guardOn_30 (by decide) ?_
      refine lv_isub hx hb ddX2_guardOn_31 ?_
      refine lv_goto (tgt := 36) hx hb ddX2_guardOn_32 (by decide) ?_
      exact k_iret hx hb hr hlocks hK hS h ddX2_guardOn_36

set_option maxHeartbeats 4000000 in
set_option maxRecDepth 100000 in
theorem c_X2_setDuty (l : Launch) (X : GX) {x1 x2 x3 : Int32} {σ : Mem} {K : Mem → Prop} (h : wp_X2_setDuty x1 x2 x3 σ K) : MV l X yX2_setDuty cX2_setDuty 4 ((Option.none : Option Jvm.ClassFile.FieldType)) ({ frames := 1, cells := 0, slots := 0, locals := 21 } : Room) [.ref (ga X 1), .int x1, .int x2, .int x3] σ K := by
  refine ent_met (QQ := fun A => va_Qv K (BW X A) A) (by decide) (Nat.le_of_ble_eq_true rfl) ?_
  intro p e s m args below meth c A ls hx hb hr hlocks hml hown ht hK hZ hA hS hl
  have hown : s.vm.findClass "GuardRoster$Roster" = some m.cls := hown
  have hl : lv_has ls 4 [(0, .ref (ga X 1)), (1, .int x1), (2, .int x2), (3, .int x3)] := hl
  unfold wp_X2_setDuty at h
  refine lv_aload_n hx hb ddX2_setDuty_0 rfl (lv_at hl 0 rfl) ?_
  refine lv_iload_n hx hb ddX2_setDuty_1 rfl (lv_at hl 1 rfl) ?_
  refine k_VI (As := [.int x1]) (rest := []) (c_X2_isGate l X h) mf_X2_isGate lk182 hx hb hml hown ht hK hZ hS hA 1 1 rfl rfl rfl ⟨rfl, rfl⟩ ⟨Nat.le_of_ble_eq_true rfl, Nat.le_of_ble_eq_true rfl⟩ rfl hl.1 rfl (Nat.le_of_ble_eq_true rfl) ⟨Nat.le_of_ble_eq_true rfl, Nat.le_of_ble_eq_true rfl⟩ ddX2_setDuty_2 (fun r2 σ1 H locs hS h => ?_)
  refine lv_if_eq (tgt := 33) hx hb ddX2_setDuty_5 (by decide) (fun c3 => ?_) (fun c3 => ?_)
  · replace h := h.1 c3
    exact k_vret hx hb hr hlocks hK hS h ddX2_setDuty_33
  · replace h := h.2 c3
    refine lv_aload_n hx hb ddX2_setDuty_8 rfl (lv_at hl 0 rfl) ?_
    refine lv_iload_n hx hb ddX2_setDuty_9 rfl (lv_at hl 2 rfl) ?_
    refine k_VI (As := [.int x2]) (rest := []) (c_X2_isSlot l X h) mf_X2_isSlot lk186 hx hb hml hown ht hK hZ hS hA 1 1 rfl rfl rfl ⟨rfl, rfl⟩ ⟨Nat.le_of_ble_eq_true rfl, Nat.le_of_ble_eq_true rfl⟩ rfl hl.1 rfl (Nat.le_of_ble_eq_true rfl) ⟨Nat.le_of_ble_eq_true rfl, Nat.le_of_ble_eq_true rfl⟩ ddX2_setDuty_10 (fun r5 σ4 H locs hS h => ?_)
    refine lv_if_eq (tgt := 33) hx hb ddX2_setDuty_13 (by decide) (fun c6 => ?_) (fun c6 => ?_)
    · replace h := h.1 c6
      exact k_vret hx hb hr hlocks hK hS h ddX2_setDuty_33
    · replace h := h.2 c6
      refine lv_aload_n hx hb ddX2_setDuty_16 rfl (lv_at hl 0 rfl) ?_
      refine get_1_0 hx hb hown ht hK hS lk38 ddX2_setDuty_17 ?_
      refine lv_bipush (v := (39 : Int32)) hx hb ddX2_setDuty_20 (by decide) ?_
      refine lv_iload_n hx hb ddX2_setDuty_22 rfl (lv_at hl 1 rfl) ?_
      refine lv_bipush (v := (28 : Int32)) hx hb ddX2_setDuty_23 (by decide) ?_
      refine lv_imul hx hb ddX2_setDuty_25 ?_
      refine lv_iadd hx hb ddX2_setDuty_26 ?_
      refine lv_iload_n hx hb ddX2_setDuty_27 rfl (lv_at hl 2 rfl) ?_
      refine lv_iadd hx hb ddX2_setDuty_28 ?_
      refine lv_iload_n hx hb ddX2_setDuty_29 rfl (lv_at hl 3 rfl) ?_
      refine lv_iconst (v := (1 : Int32)) hx hb ddX2_setDuty_30 (by decide) ?_
      refine lv_iadd hx hb ddX2_setDuty_31 ?_
      refine ast_2 hx hb hK hS h.1 ddX2_setDuty_32 (fun H locs hS => ?_)
      replace h := h.2
      obtain ⟨σ7, eσ7⟩ : ∃ y : Mem, y = (st σ4 2 (((39 : Int32) + (x1 * (28 : Int32))) + x2).toNatClampNeg (x3 + (1 : Int32))) := ⟨_, rfl⟩
      rw [← eσ7] at hS
      replace h := h σ7 eσ7
      exact k_vret hx hb hr hlocks hK hS h ddX2_setDuty_33

set_option maxHeartbeats 4000000 in
set_option maxRecDepth 100000 in
theorem c_X2_gateHeld (l : Launch) (X : GX) {x1 x2 : Int32} {σ : Mem} {K : Int32 → Mem → Prop} (h : wp_X2_gateHeld x1 x2 σ K) : MI l X yX2_gateHeld cX2_gateHeld 4 ((Option.some Jvm.ClassFile.FieldType.int)) ({ frames := 0, cells := 0, slots := 0, locals := 0 } : Room) [.ref (ga X 1), .int x1, .int x2] σ K := by
  refine ent_met (QQ := fun A => va_Qi K (BW X A) A) (by decide) (Nat.le_of_ble_eq_true rfl) ?_
  intro p e s m args below meth c A ls hx hb hr hlocks hml hown ht hK hZ hA hS hl
  have hown : s.vm.findClass "GuardRoster$Roster" = some m.cls := hown
  have hl : lv_has ls 4 [(0, .ref (ga X 1)), (1, .int x1), (2, .int x2)] := hl
  have hL18 : ∀ (n : Nat) (x1 x2 x3 : Int32) (σ : Mem) (H : Heap) (locs : List Loc) (ls : Array Slot), WS X A s.heap σ H locs → lv_has ls 4 [(0, .ref (ga X 1)), (1, .int x1), (2, .int x2), (3, .int x3)] → wlp (wpF_X2_gateHeld_18 K) n (x1, x2, x3, σ) → WI X K p l e ({ frames := 0, cells := 0, slots := 0, locals := 0 } : Room) s m args below meth c A H locs (F0 m 18 ls []) := by
    intro n18
    induction n18 with
    | zero => intro x1 x2 x3 σ H locs ls hS hl h; exact h.elim
    | succ n18 ih18 =>
      intro x1 x2 x3 σ H locs ls hS hl h
      replace h : wpS_X2_gateHeld_18 K (wlp (wpF_X2_gateHeld_18 K) n18) x1 x2 x3 σ := h
      unfold wpS_X2_gateHeld_18 at h
      refine lv_iload_n hx hb ddX2_gateHeld_18 rfl (lv_at hl 3 rfl) ?_
      refine lv_iconst (v := (5 : Int32)) hx hb ddX2_gateHeld_19 (by decide) ?_
      refine lv_icmp_ge (tgt := 51) hx hb ddX2_gateHeld_20 (by decide) (fun c4 => ?_) (fun c4 => ?_)
      · replace h := h.1 c4
        refine lv_iconst (v := (-1 : Int32)) hx hb ddX2_gateHeld_51 (by decide) ?_
        exact k_iret hx hb hr hlocks hK hS h ddX2_gateHeld_52
      · replace h := h.2 c4
        refine lv_aload_n hx hb ddX2_gateHeld_23 rfl (lv_at hl 0 rfl) ?_
        refine get_1_0 hx hb hown ht hK hS lk38 ddX2_gateHeld_24 ?_
        refine lv_bipush (v := (39 : Int32)) hx hb ddX2_gateHeld_27 (by decide) ?_
        refine lv_iload_n hx hb ddX2_gateHeld_29 rfl (lv_at hl 3 rfl) ?_
        refine lv_bipush (v := (28 : Int32)) hx hb ddX2_gateHeld_30 (by decide) ?_
        refine lv_imul hx hb ddX2_gateHeld_32 ?_
        refine lv_iadd hx hb ddX2_gateHeld_33 ?_
        refine lv_iload_n hx hb ddX2_gateHeld_34 rfl (lv_at hl 2 rfl) ?_
        refine lv_iadd hx hb ddX2_gateHeld_35 ?_
        refine ald_2 hx hb hK hS h.1 ddX2_gateHeld_36 ?_
        replace h := h.2
        refine lv_iload_n hx hb ddX2_gateHeld_37 rfl (lv_at hl 1 rfl) ?_
        refine lv_iconst (v := (1 : Int32)) hx hb ddX2_gateHeld_38 (by decide) ?_
        refine lv_iadd hx hb ddX2_gateHeld_39 ?_
        refine lv_icmp_ne (tgt := 45) hx hb ddX2_gateHeld_40 (by decide) (fun c5 => ?_) (fun c5 => ?_)
        · replace h := h.1 c5
          obtain ⟨v6, ev6⟩ : ∃ y : Int32, y = x3 + (1 : Int32) := ⟨_, rfl⟩
          replace h := h v6 ev6
          refine lv_iinc (v := v6) (lv' := [(3, .int v6), (0, .ref (ga X 1)), (1, .int x1), (2, .int x2)]) hx hb ddX2_gateHeld_45 hl (k := 3) rfl (by rw [ev6]; rfl) (by decide) rfl (fun ls hl => ?_)
          refine lv_goto (tgt := 18) hx hb ddX2_gateHeld_48 (by decide) ?_
          exact ih18 _ _ _ _ _ _ _ hS (lv_sub hl [1, 2, 3, 0] rfl) h
        · replace h := h.2 c5
          refine lv_iload_n hx hb ddX2_gateHeld_43 rfl (lv_at hl 3 rfl) ?_
          exact k_iret hx hb hr hlocks hK hS h ddX2_gateHeld_44
  unfold wp_X2_gateHeld at h
  refine lv_iload_n hx hb ddX2_gateHeld_0 rfl (lv_at hl 2 rfl) ?_
  refine lv_if_lt (tgt := 14) hx hb ddX2_gateHeld_1 (by decide) (fun c1 => ?_) (fun c1 => ?_)
  · replace h := h.1 c1
    refine lv_iconst (v := (-1 : Int32)) hx hb ddX2_gateHeld_14 (by decide) ?_
    exact k_iret hx hb hr hlocks hK hS h ddX2_gateHeld_15
  · replace h := h.2 c1
    refine lv_iload_n hx hb ddX2_gateHeld_4 rfl (lv_at hl 2 rfl) ?_
    refine lv_bipush (v := (28 : Int32)) hx hb ddX2_gateHeld_5 (by decide) ?_
    refine lv_icmp_ge (tgt := 14) hx hb ddX2_gateHeld_7 (by decide) (fun c2 => ?_) (fun c2 => ?_)
    · replace h := h.1 c2
      refine lv_iconst (v := (-1 : Int32)) hx hb ddX2_gateHeld_14 (by decide) ?_
      exact k_iret hx hb hr hlocks hK hS h ddX2_gateHeld_15
    · replace h := h.2 c2
      refine lv_iload_n hx hb ddX2_gateHeld_10 rfl (lv_at hl 1 rfl) ?_
      refine lv_if_ge (tgt := 16) hx hb ddX2_gateHeld_11 (by decide) (fun c3 => ?_) (fun c3 => ?_)
      · replace h := h.1 c3
        refine lv_iconst (v := (0 : Int32)) hx hb ddX2_gateHeld_16 (by decide) ?_
        refine lv_istore_n (lv' := [(3, .int (0 : Int32)), (0, .ref (ga X 1)), (1, .int x1), (2, .int x2)]) hx hb ddX2_gateHeld_17 rfl hl (by decide) rfl (fun ls hl => ?_)
        obtain ⟨n, h⟩ := h
        exact hL18 n _ _ _ _ _ _ _ hS (lv_sub hl [1, 2, 3, 0] rfl) h
      · replace h := h.2 c3
        refine lv_iconst (v := (-1 : Int32)) hx hb ddX2_gateHeld_14 (by decide) ?_
        exact k_iret hx hb hr hlocks hK hS h ddX2_gateHeld_15

set_option maxHeartbeats 4000000 in
set_option maxRecDepth 100000 in
theorem c_X2_firstGateHeld (l : Launch) (X : GX) {x1 x2 x3 : Int32} {σ : Mem} {K : Int32 → Mem → Prop} (h : wp_X2_firstGateHeld x1 x2 x3 σ K) : MI l X yX2_firstGateHeld cX2_firstGateHeld 6 ((Option.some Jvm.ClassFile.FieldType.int)) ({ frames := 1, cells := 0, slots := 0, locals := 23 } : Room) [.ref (ga X 1), .int x1, .int x2, .int x3] σ K := by
  refine ent_met (QQ := fun A => va_Qi K (BW X A) A) (by decide) (Nat.le_of_ble_eq_true rfl) ?_
  intro p e s m args below meth c A ls hx hb hr hlocks hml hown ht hK hZ hA hS hl
  have hown : s.vm.findClass "GuardRoster$Roster" = some m.cls := hown
  have hl : lv_has ls 6 [(0, .ref (ga X 1)), (1, .int x1), (2, .int x2), (3, .int x3)] := hl
  have hL3 : ∀ (n : Nat) (x1 x3 x4 : Int32) (σ : Mem) (H : Heap) (locs : List Loc) (ls : Array Slot), WS X A s.heap σ H locs → lv_has ls 6 [(0, .ref (ga X 1)), (1, .int x1), (3, .int x3), (4, .int x4)] → wlp (wpF_X2_firstGateHeld_3 K) n (x1, x3, x4, σ) → WI X K p l e ({ frames := 1, cells := 0, slots := 0, locals := 23 } : Room) s m args below meth c A H locs (F0 m 3 ls []) := by
    intro n3
    induction n3 with
    | zero => intro x1 x3 x4 σ H locs ls hS hl h; exact h.elim
    | succ n3 ih3 =>
      intro x1 x3 x4 σ H locs ls hS hl h
      replace h : wpS_X2_firstGateHeld_3 K (wlp (wpF_X2_firstGateHeld_3 K) n3) x1 x3 x4 σ := h
      unfold wpS_X2_firstGateHeld_3 at h
      refine lv_iload hx hb ddX2_firstGateHeld_3 (lv_at hl 3 rfl) ?_
      refine lv_iload_n hx hb ddX2_firstGateHeld_5 rfl (lv_at hl 2 rfl) ?_
      refine lv_icmp_gt (tgt := 40) hx hb ddX2_firstGateHeld_6 (by decide) (fun c1 => ?_) (fun c1 => ?_)
      · replace h := h.1 c1
        refine lv_iconst (v := (-1 : Int32)) hx hb ddX2_firstGateHeld_40 (by decide) ?_
        exact k_iret hx hb hr hlocks hK hS h ddX2_firstGateHeld_41
      · replace h := h.2 c1
        refine lv_iload hx hb ddX2_firstGateHeld_9 (lv_at hl 3 rfl) ?_
        refine lv_bipush (v := (28 : Int32)) hx hb ddX2_firstGateHeld_11 (by decide) ?_
        refine lv_icmp_ge (tgt := 40) hx hb ddX2_firstGateHeld_13 (by decide) (fun c2 => ?_) (fun c2 => ?_)
        · replace h := h.1 c2
          refine lv_iconst (v := (-1 : Int32)) hx hb ddX2_firstGateHeld_40 (by decide) ?_
          exact k_iret hx hb hr hlocks hK hS h ddX2_firstGateHeld_41
        · replace h := h.2 c2
          refine lv_aload_n hx hb ddX2_firstGateHeld_16 rfl (lv_at hl 0 rfl) ?_
          refine lv_iload_n hx hb ddX2_firstGateHeld_17 rfl (lv_at hl 1 rfl) ?_
          refine lv_iload hx hb ddX2_firstGateHeld_18 (lv_at hl 3 rfl) ?_
          refine k_VI (As := [.int x1, .int x4]) (rest := []) (c_X2_gateHeld l X h) mf_X2_gateHeld lk341 hx hb hml hown ht hK hZ hS hA 1 1 rfl rfl rfl ⟨rfl, rfl⟩ ⟨Nat.le_of_ble_eq_true rfl, Nat.le_of_ble_eq_true rfl⟩ rfl hl.1 rfl (Nat.le_of_ble_eq_true rfl) ⟨Nat.le_of_ble_eq_true rfl, Nat.le_of_ble_eq_true rfl⟩ ddX2_firstGateHeld_20 (fun r4 σ3 H locs hS h => ?_)
          refine lv_istore (lv' := [(5, .int r4), (0, .ref (ga X 1)), (1, .int x1), (3, .int x3), (4, .int x4)]) hx hb ddX2_firstGateHeld_23 hl (by decide) rfl (fun ls hl => ?_)
          refine lv_iload hx hb ddX2_firstGateHeld_25 (lv_at hl 0 rfl) ?_
          refine lv_iconst (v := (-1 : Int32)) hx hb ddX2_firstGateHeld_27 (by decide) ?_
          refine lv_icmp_eq (tgt := 34) hx hb ddX2_firstGateHeld_28 (by decide) (fun c5 => ?_) (fun c5 => ?_)
          · replace h := h.1 c5
            obtain ⟨v6, ev6⟩ : ∃ y : Int32, y = x4 + (1 : Int32) := ⟨_, rfl⟩
            replace h := h v6 ev6
            refine lv_iinc (v := v6) (lv' := [(4, .int v6), (5, .int r4), (0, .ref (ga X 1)), (1, .int x1), (3, .int x3)]) hx hb ddX2_firstGateHeld_34 hl (k := 4) rfl (by rw [ev6]; rfl) (by decide) rfl (fun ls hl => ?_)
            refine lv_goto (tgt := 3) hx hb ddX2_firstGateHeld_37 (by decide) ?_
            exact ih3 _ _ _ _ _ _ _ hS (lv_sub hl [2, 3, 4, 0] rfl) h
          · replace h := h.2 c5
            refine lv_iload hx hb ddX2_firstGateHeld_31 (lv_at hl 0 rfl) ?_
            exact k_iret hx hb hr hlocks hK hS h ddX2_firstGateHeld_33
  unfold wp_X2_firstGateHeld at h
  refine lv_iload_n hx hb ddX2_firstGateHeld_0 rfl (lv_at hl 2 rfl) ?_
  refine lv_istore (lv' := [(4, .int x2), (0, .ref (ga X 1)), (1, .int x1), (2, .int x2), (3, .int x3)]) hx hb ddX2_firstGateHeld_1 hl (by decide) rfl (fun ls hl => ?_)
  obtain ⟨n, h⟩ := h
  exact hL3 n _ _ _ _ _ _ _ hS (lv_sub hl [1, 2, 4, 0] rfl) h

set_option maxHeartbeats 4000000 in
set_option maxRecDepth 100000 in
theorem c_X2_dutyTotal (l : Launch) (X : GX) {x1 : Int32} {σ : Mem} {K : Int32 → Mem → Prop} (h : wp_X2_dutyTotal x1 σ K) : MI l X yX2_dutyTotal cX2_dutyTotal 4 ((Option.some Jvm.ClassFile.FieldType.int)) ({ frames := 0, cells := 0, slots := 0, locals := 0 } : Room) [.ref (ga X 1), .int x1] σ K := by
  refine ent_met (QQ := fun A => va_Qi K (BW X A) A) (by decide) (Nat.le_of_ble_eq_true rfl) ?_
  intro p e s m args below meth c A ls hx hb hr hlocks hml hown ht hK hZ hA hS hl
  have hown : s.vm.findClass "GuardRoster$Roster" = some m.cls := hown
  have hl : lv_has ls 4 [(0, .ref (ga X 1)), (1, .int x1)] := hl
  have hL5 : ∀ (n : Nat) (x1 x2 x3 : Int32) (σ : Mem) (H : Heap) (locs : List Loc) (ls : Array Slot), WS X A s.heap σ H locs → lv_has ls 4 [(0, .ref (ga X 1)), (1, .int x1), (2, .int x2), (3, .int x3)] → wlp (wpF_X2_dutyTotal_5 K) n (x1, x2, x3, σ) → WI X K p l e ({ frames := 0, cells := 0, slots := 0, locals := 0 } : Room) s m args below meth c A H locs (F0 m 5 ls []) := by
    intro n5
    induction n5 with
    | zero => intro x1 x2 x3 σ H locs ls hS hl h; exact h.elim
    | succ n5 ih5 =>
      have hJ27 : ∀ (x1 x2 x3 : Int32) (σ : Mem) (H : Heap) (locs : List Loc) (ls : Array Slot), WS X A s.heap σ H locs → lv_has ls 4 [(0, .ref (ga X 1)), (1, .int x1), (2, .int x2), (3, .int x3)] → wpJ_X2_dutyTotal_27 K (wlp (wpF_X2_dutyTotal_5 K) n5) x1 x2 x3 σ → WI X K p l e ({ frames := 0, cells := 0, slots := 0, locals := 0 } : Room) s m args below meth c A H locs (F0 m 27 ls []) := by
        intro x1 x2 x3 σ H locs ls hS hl h
        unfold wpJ_X2_dutyTotal_27 at h
        obtain ⟨v3, ev3⟩ : ∃ y : Int32, y = x3 + (1 : Int32) := ⟨_, rfl⟩
        replace h := h v3 ev3
        refine lv_iinc (v := v3) (lv' := [(3, .int v3), (0, .ref (ga X 1)), (1, .int x1), (2, .int x2)]) hx hb ddX2_dutyTotal_27 hl (k := 3) rfl (by rw [ev3]; rfl) (by decide) rfl (fun ls hl => ?_)
        refine lv_goto (tgt := 5) hx hb ddX2_dutyTotal_30 (by decide) ?_
        exact ih5 _ _ _ _ _ _ _ hS (lv_sub hl [1, 2, 3, 0] rfl) h
      intro x1 x2 x3 σ H locs ls hS hl h
      replace h : wpS_X2_dutyTotal_5 K (wlp (wpF_X2_dutyTotal_5 K) n5) x1 x2 x3 σ := h
      unfold wpS_X2_dutyTotal_5 at h
      refine lv_iload_n hx hb ddX2_dutyTotal_5 rfl (lv_at hl 3 rfl) ?_
      refine lv_sipush (v := (179 : Int32)) hx hb ddX2_dutyTotal_6 (by decide) ?_
      refine lv_icmp_ge (tgt := 33) hx hb ddX2_dutyTotal_9 (by decide) (fun c1 => ?_) (fun c1 => ?_)
      · replace h := h.1 c1
        refine lv_iload_n hx hb ddX2_dutyTotal_33 rfl (lv_at hl 2 rfl) ?_
        exact k_iret hx hb hr hlocks hK hS h ddX2_dutyTotal_34
      · replace h := h.2 c1
        refine lv_aload_n hx hb ddX2_dutyTotal_12 rfl (lv_at hl 0 rfl) ?_
        refine get_1_0 hx hb hown ht hK hS lk38 ddX2_dutyTotal_13 ?_
        refine lv_iload_n hx hb ddX2_dutyTotal_16 rfl (lv_at hl 3 rfl) ?_
        refine ald_2 hx hb hK hS h.1 ddX2_dutyTotal_17 ?_
        replace h := h.2
        refine lv_iload_n hx hb ddX2_dutyTotal_18 rfl (lv_at hl 1 rfl) ?_
        refine lv_iconst (v := (1 : Int32)) hx hb ddX2_dutyTotal_19 (by decide) ?_
        refine lv_iadd hx hb ddX2_dutyTotal_20 ?_
        refine lv_icmp_ne (tgt := 27) hx hb ddX2_dutyTotal_21 (by decide) (fun c2 => ?_) (fun c2 => ?_)
        · replace h := h.1 c2
          exact hJ27 _ _ _ _ _ _ _ hS (lv_sub hl [0, 1, 2, 3] rfl) h
        · replace h := h.2 c2
          obtain ⟨v4, ev4⟩ : ∃ y : Int32, y = x2 + (1 : Int32) := ⟨_, rfl⟩
          replace h := h v4 ev4
          refine lv_iinc (v := v4) (lv' := [(2, .int v4), (0, .ref (ga X 1)), (1, .int x1), (3, .int x3)]) hx hb ddX2_dutyTotal_24 hl (k := 2) rfl (by rw [ev4]; rfl) (by decide) rfl (fun ls hl => ?_)
          exact hJ27 _ _ _ _ _ _ _ hS (lv_sub hl [1, 2, 0, 3] rfl) h
  unfold wp_X2_dutyTotal at h
  refine lv_iconst (v := (0 : Int32)) hx hb ddX2_dutyTotal_0 (by decide) ?_
  refine lv_istore_n (lv' := [(2, .int (0 : Int32)), (0, .ref (ga X 1)), (1, .int x1)]) hx hb ddX2_dutyTotal_1 rfl hl (by decide) rfl (fun ls hl => ?_)
  refine lv_bipush (v := (39 : Int32)) hx hb ddX2_dutyTotal_2 (by decide) ?_
  refine lv_istore_n (lv' := [(3, .int (39 : Int32)), (2, .int (0 : Int32)), (0, .ref (ga X 1)), (1, .int x1)]) hx hb ddX2_dutyTotal_4 rfl hl (by decide) rfl (fun ls hl => ?_)
  obtain ⟨n, h⟩ := h
  exact hL5 n _ _ _ _ _ _ _ hS (lv_sub hl [2, 3, 1, 0] rfl) h

set_option maxHeartbeats 4000000 in
set_option maxRecDepth 100000 in
theorem c_X2_openGatesIn (l : Launch) (X : GX) {x1 : Int32} {σ : Mem} {K : Int32 → Mem → Prop} (h : wp_X2_openGatesIn x1 σ K) : MI l X yX2_openGatesIn cX2_openGatesIn 4 ((Option.some Jvm.ClassFile.FieldType.int)) ({ frames := 2, cells := 0, slots := 0, locals := 43 } : Room) [.ref (ga X 1), .int x1] σ K := by
  refine ent_met (QQ := fun A => va_Qi K (BW X A) A) (by decide) (Nat.le_of_ble_eq_true rfl) ?_
  intro p e s m args below meth c A ls hx hb hr hlocks hml hown ht hK hZ hA hS hl
  have hown : s.vm.findClass "GuardRoster$Roster" = some m.cls := hown
  have hl : lv_has ls 4 [(0, .ref (ga X 1)), (1, .int x1)] := hl
  have hL4 : ∀ (n : Nat) (x1 x2 x3 : Int32) (σ : Mem) (H : Heap) (locs : List Loc) (ls : Array Slot), WS X A s.heap σ H locs → lv_has ls 4 [(0, .ref (ga X 1)), (1, .int x1), (2, .int x2), (3, .int x3)] → wlp (wpF_X2_openGatesIn_4 K) n (x1, x2, x3, σ) → WI X K p l e ({ frames := 2, cells := 0, slots := 0, locals := 43 } : Room) s m args below meth c A H locs (F0 m 4 ls []) := by
    intro n4
    induction n4 with
    | zero => intro x1 x2 x3 σ H locs ls hS hl h; exact h.elim
    | succ n4 ih4 =>
      have hJ25 : ∀ (x1 x2 x3 : Int32) (σ : Mem) (H : Heap) (locs : List Loc) (ls : Array Slot), WS X A s.heap σ H locs → lv_has ls 4 [(0, .ref (ga X 1)), (1, .int x1), (2, .int x2), (3, .int x3)] → wpJ_X2_openGatesIn_25 K (wlp (wpF_X2_openGatesIn_4 K) n4) x1 x2 x3 σ → WI X K p l e ({ frames := 2, cells := 0, slots := 0, locals := 43 } : Room) s m args below meth c A H locs (F0 m 25 ls []) := by
        intro x1 x2 x3 σ H locs ls hS hl h
        unfold wpJ_X2_openGatesIn_25 at h
        obtain ⟨v7, ev7⟩ : ∃ y : Int32, y = x3 + (1 : Int32) := ⟨_, rfl⟩
        replace h := h v7 ev7
        refine lv_iinc (v := v7) (lv' := [(3, .int v7), (0, .ref (ga X 1)), (1, .int x1), (2, .int x2)]) hx hb ddX2_openGatesIn_25 hl (k := 3) rfl (by rw [ev7]; rfl) (by decide) rfl (fun ls hl => ?_)
        refine lv_goto (tgt := 4) hx hb ddX2_openGatesIn_28 (by decide) ?_
        exact ih4 _ _ _ _ _ _ _ hS (lv_sub hl [1, 2, 3, 0] rfl) h
      intro x1 x2 x3 σ H locs ls hS hl h
      replace h : wpS_X2_openGatesIn_4 K (wlp (wpF_X2_openGatesIn_4 K) n4) x1 x2 x3 σ := h
      unfold wpS_X2_openGatesIn_4 at h
      refine lv_iload_n hx hb ddX2_openGatesIn_4 rfl (lv_at hl 3 rfl) ?_
      refine lv_aload_n hx hb ddX2_openGatesIn_5 rfl (lv_at hl 0 rfl) ?_
      refine k_VI (As := []) (rest := [.int x3]) (c_X2_gates l X h) mf_X2_gates lk173 hx hb hml hown ht hK hZ hS hA 1 1 rfl rfl rfl ⟨rfl, rfl⟩ ⟨Nat.le_of_ble_eq_true rfl, Nat.le_of_ble_eq_true rfl⟩ rfl hl.1 rfl (Nat.le_of_ble_eq_true rfl) ⟨Nat.le_of_ble_eq_true rfl, Nat.le_of_ble_eq_true rfl⟩ ddX2_openGatesIn_6 (fun r2 σ1 H locs hS h => ?_)
      refine lv_icmp_ge (tgt := 31) hx hb ddX2_openGatesIn_9 (by decide) (fun c3 => ?_) (fun c3 => ?_)
      · replace h := h.1 c3
        refine lv_iload_n hx hb ddX2_openGatesIn_31 rfl (lv_at hl 2 rfl) ?_
        exact k_iret hx hb hr hlocks hK hS h ddX2_openGatesIn_32
      · replace h := h.2 c3
        refine lv_aload_n hx hb ddX2_openGatesIn_12 rfl (lv_at hl 0 rfl) ?_
        refine lv_iload_n hx hb ddX2_openGatesIn_13 rfl (lv_at hl 3 rfl) ?_
        refine lv_iload_n hx hb ddX2_openGatesIn_14 rfl (lv_at hl 1 rfl) ?_
        refine k_VI (As := [.int x3, .int x1]) (rest := []) (c_X2_guardOn l X h) mf_X2_guardOn lk178 hx hb hml hown ht hK hZ hS hA 1 1 rfl rfl rfl ⟨rfl, rfl⟩ ⟨Nat.le_of_ble_eq_true rfl, Nat.le_of_ble_eq_true rfl⟩ rfl hl.1 rfl (Nat.le_of_ble_eq_true rfl) ⟨Nat.le_of_ble_eq_true rfl, Nat.le_of_ble_eq_true rfl⟩ ddX2_openGatesIn_15 (fun r5 σ4 H locs hS h => ?_)
        refine lv_iconst (v := (-1 : Int32)) hx hb ddX2_openGatesIn_18 (by decide) ?_
        refine lv_icmp_ne (tgt := 25) hx hb ddX2_openGatesIn_19 (by decide) (fun c6 => ?_) (fun c6 => ?_)
        · replace h := h.1 c6
          exact hJ25 _ _ _ _ _ _ _ hS (lv_sub hl [0, 1, 2, 3] rfl) h
        · replace h := h.2 c6
          obtain ⟨v8, ev8⟩ : ∃ y : Int32, y = x2 + (1 : Int32) := ⟨_, rfl⟩
          replace h := h v8 ev8
          refine lv_iinc (v := v8) (lv' := [(2, .int v8), (0, .ref (ga X 1)), (1, .int x1), (3, .int x3)]) hx hb ddX2_openGatesIn_22 hl (k := 2) rfl (by rw [ev8]; rfl) (by decide) rfl (fun ls hl => ?_)
          exact hJ25 _ _ _ _ _ _ _ hS (lv_sub hl [1, 2, 0, 3] rfl) h
  unfold wp_X2_openGatesIn at h
  refine lv_iconst (v := (0 : Int32)) hx hb ddX2_openGatesIn_0 (by decide) ?_
  refine lv_istore_n (lv' := [(2, .int (0 : Int32)), (0, .ref (ga X 1)), (1, .int x1)]) hx hb ddX2_openGatesIn_1 rfl hl (by decide) rfl (fun ls hl => ?_)
  refine lv_iconst (v := (0 : Int32)) hx hb ddX2_openGatesIn_2 (by decide) ?_
  refine lv_istore_n (lv' := [(3, .int (0 : Int32)), (2, .int (0 : Int32)), (0, .ref (ga X 1)), (1, .int x1)]) hx hb ddX2_openGatesIn_3 rfl hl (by decide) rfl (fun ls hl => ?_)
  obtain ⟨n, h⟩ := h
  exact hL4 n _ _ _ _ _ _ _ hS (lv_sub hl [2, 3, 1, 0] rfl) h

set_option maxHeartbeats 4000000 in
set_option maxRecDepth 100000 in
theorem c_X2_openSlotsOf (l : Launch) (X : GX) {x1 : Int32} {σ : Mem} {K : Int32 → Mem → Prop} (h : wp_X2_openSlotsOf x1 σ K) : MI l X yX2_openSlotsOf cX2_openSlotsOf 4 ((Option.some Jvm.ClassFile.FieldType.int)) ({ frames := 2, cells := 0, slots := 0, locals := 43 } : Room) [.ref (ga X 1), .int x1] σ K := by
  refine ent_met (QQ := fun A => va_Qi K (BW X A) A) (by decide) (Nat.le_of_ble_eq_true rfl) ?_
  intro p e s m args below meth c A ls hx hb hr hlocks hml hown ht hK hZ hA hS hl
  have hown : s.vm.findClass "GuardRoster$Roster" = some m.cls := hown
  have hl : lv_has ls 4 [(0, .ref (ga X 1)), (1, .int x1)] := hl
  have hL7 : ∀ (n : Nat) (x1 x2 x3 : Int32) (σ : Mem) (H : Heap) (locs : List Loc) (ls : Array Slot), WS X A s.heap σ H locs → lv_has ls 4 [(0, .ref (ga X 1)), (1, .int x1), (2, .int x2), (3, .int x3)] → wlp (wpF_X2_openSlotsOf_7 K) n (x1, x2, x3, σ) → WI X K p l e ({ frames := 2, cells := 0, slots := 0, locals := 43 } : Room) s m args below meth c A H locs (F0 m 7 ls []) := by
    intro n7
    induction n7 with
    | zero => intro x1 x2 x3 σ H locs ls hS hl h; exact h.elim
    | succ n7 ih7 =>
      have hJ26 : ∀ (x1 x2 x3 : Int32) (σ : Mem) (H : Heap) (locs : List Loc) (ls : Array Slot), WS X A s.heap σ H locs → lv_has ls 4 [(0, .ref (ga X 1)), (1, .int x1), (2, .int x2), (3, .int x3)] → wpJ_X2_openSlotsOf_26 K (wlp (wpF_X2_openSlotsOf_7 K) n7) x1 x2 x3 σ → WI X K p l e ({ frames := 2, cells := 0, slots := 0, locals := 43 } : Room) s m args below meth c A H locs (F0 m 26 ls []) := by
        intro x1 x2 x3 σ H locs ls hS hl h
        unfold wpJ_X2_openSlotsOf_26 at h
        obtain ⟨v7, ev7⟩ : ∃ y : Int32, y = x3 + (1 : Int32) := ⟨_, rfl⟩
        replace h := h v7 ev7
        refine lv_iinc (v := v7) (lv' := [(3, .int v7), (0, .ref (ga X 1)), (1, .int x1), (2, .int x2)]) hx hb ddX2_openSlotsOf_26 hl (k := 3) rfl (by rw [ev7]; rfl) (by decide) rfl (fun ls hl => ?_)
        refine lv_goto (tgt := 7) hx hb ddX2_openSlotsOf_29 (by decide) ?_
        exact ih7 _ _ _ _ _ _ _ hS (lv_sub hl [1, 2, 3, 0] rfl) h
      intro x1 x2 x3 σ H locs ls hS hl h
      replace h : wpS_X2_openSlotsOf_7 K (wlp (wpF_X2_openSlotsOf_7 K) n7) x1 x2 x3 σ := h
      unfold wpS_X2_openSlotsOf_7 at h
      refine lv_iload_n hx hb ddX2_openSlotsOf_7 rfl (lv_at hl 3 rfl) ?_
      refine lv_bipush (v := (28 : Int32)) hx hb ddX2_openSlotsOf_8 (by decide) ?_
      refine lv_icmp_ge (tgt := 32) hx hb ddX2_openSlotsOf_10 (by decide) (fun c3 => ?_) (fun c3 => ?_)
      · replace h := h.1 c3
        refine lv_iload_n hx hb ddX2_openSlotsOf_32 rfl (lv_at hl 2 rfl) ?_
        exact k_iret hx hb hr hlocks hK hS h ddX2_openSlotsOf_33
      · replace h := h.2 c3
        refine lv_aload_n hx hb ddX2_openSlotsOf_13 rfl (lv_at hl 0 rfl) ?_
        refine lv_iload_n hx hb ddX2_openSlotsOf_14 rfl (lv_at hl 1 rfl) ?_
        refine lv_iload_n hx hb ddX2_openSlotsOf_15 rfl (lv_at hl 3 rfl) ?_
        refine k_VI (As := [.int x1, .int x3]) (rest := []) (c_X2_guardOn l X h) mf_X2_guardOn lk178 hx hb hml hown ht hK hZ hS hA 1 1 rfl rfl rfl ⟨rfl, rfl⟩ ⟨Nat.le_of_ble_eq_true rfl, Nat.le_of_ble_eq_true rfl⟩ rfl hl.1 rfl (Nat.le_of_ble_eq_true rfl) ⟨Nat.le_of_ble_eq_true rfl, Nat.le_of_ble_eq_true rfl⟩ ddX2_openSlotsOf_16 (fun r5 σ4 H locs hS h => ?_)
        refine lv_iconst (v := (-1 : Int32)) hx hb ddX2_openSlotsOf_19 (by decide) ?_
        refine lv_icmp_ne (tgt := 26) hx hb ddX2_openSlotsOf_20 (by decide) (fun c6 => ?_) (fun c6 => ?_)
        · replace h := h.1 c6
          exact hJ26 _ _ _ _ _ _ _ hS (lv_sub hl [0, 1, 2, 3] rfl) h
        · replace h := h.2 c6
          obtain ⟨v8, ev8⟩ : ∃ y : Int32, y = x2 + (1 : Int32) := ⟨_, rfl⟩
          replace h := h v8 ev8
          refine lv_iinc (v := v8) (lv' := [(2, .int v8), (0, .ref (ga X 1)), (1, .int x1), (3, .int x3)]) hx hb ddX2_openSlotsOf_23 hl (k := 2) rfl (by rw [ev8]; rfl) (by decide) rfl (fun ls hl => ?_)
          exact hJ26 _ _ _ _ _ _ _ hS (lv_sub hl [1, 2, 0, 3] rfl) h
  unfold wp_X2_openSlotsOf at h
  refine lv_iconst (v := (0 : Int32)) hx hb ddX2_openSlotsOf_0 (by decide) ?_
  refine lv_istore_n (lv' := [(2, .int (0 : Int32)), (0, .ref (ga X 1)), (1, .int x1)]) hx hb ddX2_openSlotsOf_1 rfl hl (by decide) rfl (fun ls hl => ?_)
  refine lv_aload_n hx hb ddX2_openSlotsOf_2 rfl (lv_at hl 1 rfl) ?_
  refine k_VI (As := []) (rest := []) (c_X2_now l X h) mf_X2_now lk198 hx hb hml hown ht hK hZ hS hA 1 1 rfl rfl rfl ⟨rfl, rfl⟩ ⟨Nat.le_of_ble_eq_true rfl, Nat.le_of_ble_eq_true rfl⟩ rfl hl.1 rfl (Nat.le_of_ble_eq_true rfl) ⟨Nat.le_of_ble_eq_true rfl, Nat.le_of_ble_eq_true rfl⟩ ddX2_openSlotsOf_3 (fun r2 σ1 H locs hS h => ?_)
  refine lv_istore_n (lv' := [(3, .int r2), (2, .int (0 : Int32)), (0, .ref (ga X 1)), (1, .int x1)]) hx hb ddX2_openSlotsOf_6 rfl hl (by decide) rfl (fun ls hl => ?_)
  obtain ⟨n, h⟩ := h
  exact hL7 n _ _ _ _ _ _ _ hS (lv_sub hl [2, 3, 1, 0] rfl) h

set_option maxHeartbeats 4000000 in
set_option maxRecDepth 100000 in
theorem c_X2_allDuties (l : Launch) (X : GX) {x1 : Int32} {σ : Mem} {K : Int32 → Mem → Prop} (h : wp_X2_allDuties x1 σ K) : MI l X yX2_allDuties cX2_allDuties 4 ((Option.some Jvm.ClassFile.FieldType.int)) ({ frames := 3, cells := 0, slots := 0, locals := 66 } : Room) [.ref (ga X 1), .int x1] σ K := by
  refine ent_met (QQ := fun A => va_Qi K (BW X A) A) (by decide) (Nat.le_of_ble_eq_true rfl) ?_
  intro p e s m args below meth c A ls hx hb hr hlocks hml hown ht hK hZ hA hS hl
  have hown : s.vm.findClass "GuardRoster$Roster" = some m.cls := hown
  have hl : lv_has ls 4 [(0, .ref (ga X 1)), (1, .int x1)] := hl
  have hL8 : ∀ (n : Nat) (x2 x3 : Int32) (σ : Mem) (H : Heap) (locs : List Loc) (ls : Array Slot), WS X A s.heap σ H locs → lv_has ls 4 [(0, .ref (ga X 1)), (2, .int x2), (3, .int x3)] → wlp (wpF_X2_allDuties_8 K) n (x2, x3, σ) → WI X K p l e ({ frames := 3, cells := 0, slots := 0, locals := 66 } : Room) s m args below meth c A H locs (F0 m 8 ls []) := by
    intro n8
    induction n8 with
    | zero => intro x2 x3 σ H locs ls hS hl h; exact h.elim
    | succ n8 ih8 =>
      intro x2 x3 σ H locs ls hS hl h
      replace h : wpS_X2_allDuties_8 K (wlp (wpF_X2_allDuties_8 K) n8) x2 x3 σ := h
      unfold wpS_X2_allDuties_8 at h
      refine lv_iload_n hx hb ddX2_allDuties_8 rfl (lv_at hl 2 rfl) ?_
      refine lv_bipush (v := (28 : Int32)) hx hb ddX2_allDuties_9 (by decide) ?_
      refine lv_icmp_ge (tgt := 33) hx hb ddX2_allDuties_11 (by decide) (fun c2 => ?_) (fun c2 => ?_)
      · replace h := h.1 c2
        refine lv_iload_n hx hb ddX2_allDuties_33 rfl (lv_at hl 1 rfl) ?_
        exact k_iret hx hb hr hlocks hK hS h ddX2_allDuties_34
      · replace h := h.2 c2
        refine lv_iload_n hx hb ddX2_allDuties_14 rfl (lv_at hl 1 rfl) ?_
        refine lv_aload_n hx hb ddX2_allDuties_15 rfl (lv_at hl 0 rfl) ?_
        refine k_VI (As := []) (rest := [.int x2]) (c_X2_gates l X h) mf_X2_gates lk173 hx hb hml hown ht hK hZ hS hA 1 1 rfl rfl rfl ⟨rfl, rfl⟩ ⟨Nat.le_of_ble_eq_true rfl, Nat.le_of_ble_eq_true rfl⟩ rfl hl.1 rfl (Nat.le_of_ble_eq_true rfl) ⟨Nat.le_of_ble_eq_true rfl, Nat.le_of_ble_eq_true rfl⟩ ddX2_allDuties_16 (fun r4 σ3 H locs hS h => ?_)
        refine lv_aload_n hx hb ddX2_allDuties_19 rfl (lv_at hl 0 rfl) ?_
        refine lv_iload_n hx hb ddX2_allDuties_20 rfl (lv_at hl 2 rfl) ?_
        refine k_VI (As := [.int x3]) (rest := [.int r4, .int x2]) (c_X2_openGatesIn l X h) mf_X2_openGatesIn lk174 hx hb hml hown ht hK hZ hS hA 1 1 rfl rfl rfl ⟨rfl, rfl⟩ ⟨Nat.le_of_ble_eq_true rfl, Nat.le_of_ble_eq_true rfl⟩ rfl hl.1 rfl (Nat.le_of_ble_eq_true rfl) ⟨Nat.le_of_ble_eq_true rfl, Nat.le_of_ble_eq_true rfl⟩ ddX2_allDuties_21 (fun r6 σ5 H locs hS h => ?_)
        refine lv_isub hx hb ddX2_allDuties_24 ?_
        refine lv_iadd hx hb ddX2_allDuties_25 ?_
        refine lv_topi (fun v7 ev7 => ?_)
        replace h := h v7 ev7
        refine lv_istore_n (lv' := [(2, .int v7), (0, .ref (ga X 1)), (3, .int x3)]) hx hb ddX2_allDuties_26 rfl hl (by decide) rfl (fun ls hl => ?_)
        obtain ⟨v8, ev8⟩ : ∃ y : Int32, y = x3 + (1 : Int32) := ⟨_, rfl⟩
        replace h := h v8 ev8
        refine lv_iinc (v := v8) (lv' := [(3, .int v8), (2, .int v7), (0, .ref (ga X 1))]) hx hb ddX2_allDuties_27 hl (k := 2) rfl (by rw [ev8]; rfl) (by decide) rfl (fun ls hl => ?_)
        refine lv_goto (tgt := 8) hx hb ddX2_allDuties_30 (by decide) ?_
        exact ih8 _ _ _ _ _ _ hS (lv_sub hl [2, 1, 0] rfl) h
  unfold wp_X2_allDuties at h
  refine lv_iconst (v := (0 : Int32)) hx hb ddX2_allDuties_0 (by decide) ?_
  refine lv_istore_n (lv' := [(2, .int (0 : Int32)), (0, .ref (ga X 1)), (1, .int x1)]) hx hb ddX2_allDuties_1 rfl hl (by decide) rfl (fun ls hl => ?_)
  refine lv_iconst (v := (0 : Int32)) hx hb ddX2_allDuties_2 (by decide) ?_
  refine lv_iload_n hx hb ddX2_allDuties_3 rfl (lv_at hl 2 rfl) ?_
  refine k_max hx hb (hml.trans hl.1.symm) hown ht lk170 (Nat.le_of_ble_eq_true rfl) (Nat.le_of_ble_eq_true rfl) ddX2_allDuties_4 ?_
  refine lv_topi (fun v1 ev1 => ?_)
  replace h := h v1 ev1
  refine lv_istore_n (lv' := [(3, .int v1), (2, .int (0 : Int32)), (0, .ref (ga X 1)), (1, .int x1)]) hx hb ddX2_allDuties_7 rfl hl (by decide) rfl (fun ls hl => ?_)
  obtain ⟨n, h⟩ := h
  exact hL8 n _ _ _ _ _ _ hS (lv_sub hl [2, 1, 0] rfl) h

set_option maxHeartbeats 4000000 in
set_option maxRecDepth 100000 in
theorem c_X2_hasLeave (l : Launch) (X : GX) {x1 x2 : Int32} {σ : Mem} {K : Int32 → Mem → Prop} (h : wp_X2_hasLeave x1 x2 σ K) : MI l X yX2_hasLeave cX2_hasLeave 3 ((Option.some Jvm.ClassFile.FieldType.boolean)) ({ frames := 1, cells := 0, slots := 0, locals := 21 } : Room) [.ref (ga X 1), .int x1, .int x2] σ K := by
  refine ent_met (QQ := fun A => va_Qi K (BW X A) A) (by decide) (Nat.le_of_ble_eq_true rfl) ?_
  intro p e s m args below meth c A ls hx hb hr hlocks hml hown ht hK hZ hA hS hl
  have hown : s.vm.findClass "GuardRoster$Roster" = some m.cls := hown
  have hl : lv_has ls 3 [(0, .ref (ga X 1)), (1, .int x1), (2, .int x2)] := hl
  unfold wp_X2_hasLeave at h
  refine lv_aload_n hx hb ddX2_hasLeave_0 rfl (lv_at hl 0 rfl) ?_
  refine lv_iload_n hx hb ddX2_hasLeave_1 rfl (lv_at hl 1 rfl) ?_
  refine k_VI (As := [.int x1]) (rest := []) (c_X2_isGuard l X h) mf_X2_isGuard lk329 hx hb hml hown ht hK hZ hS hA 1 1 rfl rfl rfl ⟨rfl, rfl⟩ ⟨Nat.le_of_ble_eq_true rfl, Nat.le_of_ble_eq_true rfl⟩ rfl hl.1 rfl (Nat.le_of_ble_eq_true rfl) ⟨Nat.le_of_ble_eq_true rfl, Nat.le_of_ble_eq_true rfl⟩ ddX2_hasLeave_2 (fun r2 σ1 H locs hS h => ?_)
  refine lv_if_eq (tgt := 29) hx hb ddX2_hasLeave_5 (by decide) (fun c3 => ?_) (fun c3 => ?_)
  · replace h := h.1 c3
    refine lv_iconst (v := (0 : Int32)) hx hb ddX2_hasLeave_29 (by decide) ?_
    exact k_zret hx hb hr hlocks hK hS rfl h ddX2_hasLeave_30
  · replace h := h.2 c3
    refine lv_aload_n hx hb ddX2_hasLeave_8 rfl (lv_at hl 0 rfl) ?_
    refine get_1_0 hx hb hown ht hK hS lk38 ddX2_hasLeave_9 ?_
    refine lv_bipush (v := (29 : Int32)) hx hb ddX2_hasLeave_12 (by decide) ?_
    refine lv_iload_n hx hb ddX2_hasLeave_14 rfl (lv_at hl 1 rfl) ?_
    refine lv_iadd hx hb ddX2_hasLeave_15 ?_
    refine ald_2 hx hb hK hS h.1 ddX2_hasLeave_16 ?_
    replace h := h.2
    refine lv_iload_n hx hb ddX2_hasLeave_17 rfl (lv_at hl 2 rfl) ?_
    refine lv_ishr hx hb ddX2_hasLeave_18 ?_
    refine lv_iconst (v := (1 : Int32)) hx hb ddX2_hasLeave_19 (by decide) ?_
    refine lv_iand hx hb ddX2_hasLeave_20 ?_
    refine lv_iconst (v := (1 : Int32)) hx hb ddX2_hasLeave_21 (by decide) ?_
    refine lv_icmp_ne (tgt := 29) hx hb ddX2_hasLeave_22 (by decide) (fun c4 => ?_) (fun c4 => ?_)
    · replace h := h.1 c4
      refine lv_iconst (v := (0 : Int32)) hx hb ddX2_hasLeave_29 (by decide) ?_
      exact k_zret hx hb hr hlocks hK hS rfl h ddX2_hasLeave_30
    · replace h := h.2 c4
      refine lv_iconst (v := (1 : Int32)) hx hb ddX2_hasLeave_25 (by decide) ?_
      refine lv_goto (tgt := 30) hx hb ddX2_hasLeave_26 (by decide) ?_
      exact k_zret hx hb hr hlocks hK hS rfl h ddX2_hasLeave_30

set_option maxHeartbeats 4000000 in
set_option maxRecDepth 100000 in
theorem c_X2_reasonAgainst (l : Launch) (X : GX) {x1 x2 x3 : Int32} {σ : Mem} {K : Int32 → Mem → Prop} (h : wp_X2_reasonAgainst x1 x2 x3 σ K) : MI l X yX2_reasonAgainst cX2_reasonAgainst 4 ((Option.some Jvm.ClassFile.FieldType.int)) ({ frames := 2, cells := 0, slots := 0, locals := 43 } : Room) [.ref (ga X 1), .int x1, .int x2, .int x3] σ K := by
  refine ent_met (QQ := fun A => va_Qi K (BW X A) A) (by decide) (Nat.le_of_ble_eq_true rfl) ?_
  intro p e s m args below meth c A ls hx hb hr hlocks hml hown ht hK hZ hA hS hl
  have hown : s.vm.findClass "GuardRoster$Roster" = some m.cls := hown
  have hl : lv_has ls 4 [(0, .ref (ga X 1)), (1, .int x1), (2, .int x2), (3, .int x3)] := hl
  unfold wp_X2_reasonAgainst at h
  refine lv_aload_n hx hb ddX2_reasonAgainst_0 rfl (lv_at hl 0 rfl) ?_
  refine lv_iload_n hx hb ddX2_reasonAgainst_1 rfl (lv_at hl 1 rfl) ?_
  refine lv_iload_n hx hb ddX2_reasonAgainst_2 rfl (lv_at hl 2 rfl) ?_
  refine k_VI (As := [.int x1, .int x2]) (rest := []) (c_X2_guardOn l X h) mf_X2_guardOn lk178 hx hb hml hown ht hK hZ hS hA 1 1 rfl rfl rfl ⟨rfl, rfl⟩ ⟨Nat.le_of_ble_eq_true rfl, Nat.le_of_ble_eq_true rfl⟩ rfl hl.1 rfl (Nat.le_of_ble_eq_true rfl) ⟨Nat.le_of_ble_eq_true rfl, Nat.le_of_ble_eq_true rfl⟩ ddX2_reasonAgainst_3 (fun r2 σ1 H locs hS h => ?_)
  refine lv_iconst (v := (-1 : Int32)) hx hb ddX2_reasonAgainst_6 (by decide) ?_
  refine lv_icmp_eq (tgt := 12) hx hb ddX2_reasonAgainst_7 (by decide) (fun c3 => ?_) (fun c3 => ?_)
  · replace h := h.1 c3
    refine lv_aload_n hx hb ddX2_reasonAgainst_12 rfl (lv_at hl 0 rfl) ?_
    refine lv_iload_n hx hb ddX2_reasonAgainst_13 rfl (lv_at hl 3 rfl) ?_
    refine k_VI (As := [.int x3]) (rest := []) (c_X2_rankOf l X h) mf_X2_rankOf lk325 hx hb hml hown ht hK hZ hS hA 1 1 rfl rfl rfl ⟨rfl, rfl⟩ ⟨Nat.le_of_ble_eq_true rfl, Nat.le_of_ble_eq_true rfl⟩ rfl hl.1 rfl (Nat.le_of_ble_eq_true rfl) ⟨Nat.le_of_ble_eq_true rfl, Nat.le_of_ble_eq_true rfl⟩ ddX2_reasonAgainst_14 (fun r5 σ4 H locs hS h => ?_)
    refine lv_aload_n hx hb ddX2_reasonAgainst_17 rfl (lv_at hl 0 rfl) ?_
    refine lv_iload_n hx hb ddX2_reasonAgainst_18 rfl (lv_at hl 1 rfl) ?_
    refine k_VI (As := [.int x1]) (rest := [.int r5]) (c_X2_rankNeededAt l X h) mf_X2_rankNeededAt lk333 hx hb hml hown ht hK hZ hS hA 1 1 rfl rfl rfl ⟨rfl, rfl⟩ ⟨Nat.le_of_ble_eq_true rfl, Nat.le_of_ble_eq_true rfl⟩ rfl hl.1 rfl (Nat.le_of_ble_eq_true rfl) ⟨Nat.le_of_ble_eq_true rfl, Nat.le_of_ble_eq_true rfl⟩ ddX2_reasonAgainst_19 (fun r7 σ6 H locs hS h => ?_)
    refine lv_icmp_ge (tgt := 27) hx hb ddX2_reasonAgainst_22 (by decide) (fun c8 => ?_) (fun c8 => ?_)
    · replace h := h.1 c8
      refine lv_aload_n hx hb ddX2_reasonAgainst_27 rfl (lv_at hl 0 rfl) ?_
      refine lv_iload_n hx hb ddX2_reasonAgainst_28 rfl (lv_at hl 3 rfl) ?_
      refine lv_iload_n hx hb ddX2_reasonAgainst_29 rfl (lv_at hl 2 rfl) ?_
      refine k_VI (As := [.int x3, .int x2]) (rest := []) (c_X2_hasLeave l X h) mf_X2_hasLeave lk337 hx hb hml hown ht hK hZ hS hA 1 1 rfl rfl rfl ⟨rfl, rfl⟩ ⟨Nat.le_of_ble_eq_true rfl, Nat.le_of_ble_eq_true rfl⟩ rfl hl.1 rfl (Nat.le_of_ble_eq_true rfl) ⟨Nat.le_of_ble_eq_true rfl, Nat.le_of_ble_eq_true rfl⟩ ddX2_reasonAgainst_30 (fun r10 σ9 H locs hS h => ?_)
      refine lv_if_eq (tgt := 38) hx hb ddX2_reasonAgainst_33 (by decide) (fun c11 => ?_) (fun c11 => ?_)
      · replace h := h.1 c11
        refine lv_aload_n hx hb ddX2_reasonAgainst_38 rfl (lv_at hl 0 rfl) ?_
        refine lv_iload_n hx hb ddX2_reasonAgainst_39 rfl (lv_at hl 3 rfl) ?_
        refine lv_iload_n hx hb ddX2_reasonAgainst_40 rfl (lv_at hl 2 rfl) ?_
        refine k_VI (As := [.int x3, .int x2]) (rest := []) (c_X2_gateHeld l X h) mf_X2_gateHeld lk341 hx hb hml hown ht hK hZ hS hA 1 1 rfl rfl rfl ⟨rfl, rfl⟩ ⟨Nat.le_of_ble_eq_true rfl, Nat.le_of_ble_eq_true rfl⟩ rfl hl.1 rfl (Nat.le_of_ble_eq_true rfl) ⟨Nat.le_of_ble_eq_true rfl, Nat.le_of_ble_eq_true rfl⟩ ddX2_reasonAgainst_41 (fun r13 σ12 H locs hS h => ?_)
        refine lv_iconst (v := (-1 : Int32)) hx hb ddX2_reasonAgainst_44 (by decide) ?_
        refine lv_icmp_eq (tgt := 50) hx hb ddX2_reasonAgainst_45 (by decide) (fun c14 => ?_) (fun c14 => ?_)
        · replace h := h.1 c14
          refine lv_aload_n hx hb ddX2_reasonAgainst_50 rfl (lv_at hl 0 rfl) ?_
          refine lv_iload_n hx hb ddX2_reasonAgainst_51 rfl (lv_at hl 3 rfl) ?_
          refine lv_iload_n hx hb ddX2_reasonAgainst_52 rfl (lv_at hl 2 rfl) ?_
          refine lv_iconst (v := (1 : Int32)) hx hb ddX2_reasonAgainst_53 (by decide) ?_
          refine lv_isub hx hb ddX2_reasonAgainst_54 ?_
          refine k_VI (As := [.int x3, .int (x2 - (1 : Int32))]) (rest := []) (c_X2_gateHeld l X h) mf_X2_gateHeld lk341 hx hb hml hown ht hK hZ hS hA 1 1 rfl rfl rfl ⟨rfl, rfl⟩ ⟨Nat.le_of_ble_eq_true rfl, Nat.le_of_ble_eq_true rfl⟩ rfl hl.1 rfl (Nat.le_of_ble_eq_true rfl) ⟨Nat.le_of_ble_eq_true rfl, Nat.le_of_ble_eq_true rfl⟩ ddX2_reasonAgainst_55 (fun r16 σ15 H locs hS h => ?_)
          refine lv_iconst (v := (-1 : Int32)) hx hb ddX2_reasonAgainst_58 (by decide) ?_
          refine lv_icmp_eq (tgt := 64) hx hb ddX2_reasonAgainst_59 (by decide) (fun c17 => ?_) (fun c17 => ?_)
          · replace h := h.1 c17
            refine lv_aload_n hx hb ddX2_reasonAgainst_64 rfl (lv_at hl 0 rfl) ?_
            refine lv_iload_n hx hb ddX2_reasonAgainst_65 rfl (lv_at hl 3 rfl) ?_
            refine lv_iload_n hx hb ddX2_reasonAgainst_66 rfl (lv_at hl 2 rfl) ?_
            refine lv_iconst (v := (1 : Int32)) hx hb ddX2_reasonAgainst_67 (by decide) ?_
            refine lv_iadd hx hb ddX2_reasonAgainst_68 ?_
            refine k_VI (As := [.int x3, .int (x2 + (1 : Int32))]) (rest := []) (c_X2_gateHeld l X h) mf_X2_gateHeld lk341 hx hb hml hown ht hK hZ hS hA 1 1 rfl rfl rfl ⟨rfl, rfl⟩ ⟨Nat.le_of_ble_eq_true rfl, Nat.le_of_ble_eq_true rfl⟩ rfl hl.1 rfl (Nat.le_of_ble_eq_true rfl) ⟨Nat.le_of_ble_eq_true rfl, Nat.le_of_ble_eq_true rfl⟩ ddX2_reasonAgainst_69 (fun r19 σ18 H locs hS h => ?_)
            refine lv_iconst (v := (-1 : Int32)) hx hb ddX2_reasonAgainst_72 (by decide) ?_
            refine lv_icmp_eq (tgt := 81) hx hb ddX2_reasonAgainst_73 (by decide) (fun c20 => ?_) (fun c20 => ?_)
            · replace h := h.1 c20
              refine lv_iconst (v := (0 : Int32)) hx hb ddX2_reasonAgainst_81 (by decide) ?_
              exact k_iret hx hb hr hlocks hK hS h ddX2_reasonAgainst_82
            · replace h := h.2 c20
              refine lv_bipush (v := (6 : Int32)) hx hb ddX2_reasonAgainst_76 (by decide) ?_
              refine lv_goto (tgt := 82) hx hb ddX2_reasonAgainst_78 (by decide) ?_
              exact k_iret hx hb hr hlocks hK hS h ddX2_reasonAgainst_82
          · replace h := h.2 c17
            refine lv_iconst (v := (5 : Int32)) hx hb ddX2_reasonAgainst_62 (by decide) ?_
            exact k_iret hx hb hr hlocks hK hS h ddX2_reasonAgainst_63
        · replace h := h.2 c14
          refine lv_iconst (v := (4 : Int32)) hx hb ddX2_reasonAgainst_48 (by decide) ?_
          exact k_iret hx hb hr hlocks hK hS h ddX2_reasonAgainst_49
      · replace h := h.2 c11
        refine lv_iconst (v := (3 : Int32)) hx hb ddX2_reasonAgainst_36 (by decide) ?_
        exact k_iret hx hb hr hlocks hK hS h ddX2_reasonAgainst_37
    · replace h := h.2 c8
      refine lv_iconst (v := (2 : Int32)) hx hb ddX2_reasonAgainst_25 (by decide) ?_
      exact k_iret hx hb hr hlocks hK hS h ddX2_reasonAgainst_26
  · replace h := h.2 c3
    refine lv_iconst (v := (1 : Int32)) hx hb ddX2_reasonAgainst_10 (by decide) ?_
    exact k_iret hx hb hr hlocks hK hS h ddX2_reasonAgainst_11

set_option maxHeartbeats 4000000 in
set_option maxRecDepth 100000 in
theorem c_X2_detailOf (l : Launch) (X : GX) {x1 x2 x3 x4 : Int32} {σ : Mem} {K : Int32 → Mem → Prop} (h : wp_X2_detailOf x1 x2 x3 x4 σ K) : MI l X yX2_detailOf cX2_detailOf 5 ((Option.some Jvm.ClassFile.FieldType.int)) ({ frames := 2, cells := 0, slots := 0, locals := 43 } : Room) [.ref (ga X 1), .int x1, .int x2, .int x3, .int x4] σ K := by
  refine ent_met (QQ := fun A => va_Qi K (BW X A) A) (by decide) (Nat.le_of_ble_eq_true rfl) ?_
  intro p e s m args below meth c A ls hx hb hr hlocks hml hown ht hK hZ hA hS hl
  have hown : s.vm.findClass "GuardRoster$Roster" = some m.cls := hown
  have hl : lv_has ls 5 [(0, .ref (ga X 1)), (1, .int x1), (2, .int x2), (3, .int x3), (4, .int x4)] := hl
  unfold wp_X2_detailOf at h
  refine lv_iload_n hx hb ddX2_detailOf_0 rfl (lv_at hl 1 rfl) ?_
  by_cases c3 : x1 = (1 : Int32)
  · refine lv_tableIn (off := 35) (tgt := 36) hx hb ddX2_detailOf_1 (by rw [c3]; decide) (by rw [c3]; decide) (by rw [c3]; rfl) (by decide) ?_
    replace h := h.1 c3
    refine lv_aload_n hx hb ddX2_detailOf_36 rfl (lv_at hl 0 rfl) ?_
    refine lv_iload_n hx hb ddX2_detailOf_37 rfl (lv_at hl 2 rfl) ?_
    refine lv_iload_n hx hb ddX2_detailOf_38 rfl (lv_at hl 3 rfl) ?_
    refine k_VI (As := [.int x2, .int x3]) (rest := []) (c_X2_guardOn l X h) mf_X2_guardOn lk178 hx hb hml hown ht hK hZ hS hA 1 1 rfl rfl rfl ⟨rfl, rfl⟩ ⟨Nat.le_of_ble_eq_true rfl, Nat.le_of_ble_eq_true rfl⟩ rfl hl.1 rfl (Nat.le_of_ble_eq_true rfl) ⟨Nat.le_of_ble_eq_true rfl, Nat.le_of_ble_eq_true rfl⟩ ddX2_detailOf_39 (fun r2 σ1 H locs hS h => ?_)
    exact k_iret hx hb hr hlocks hK hS h ddX2_detailOf_42
  replace h := h.2
  by_cases c6 : x1 = (2 : Int32)
  · refine lv_tableIn (off := 42) (tgt := 43) hx hb ddX2_detailOf_1 (by rw [c6]; decide) (by rw [c6]; decide) (by rw [c6]; rfl) (by decide) ?_
    replace h := h.1 c6
    refine lv_aload_n hx hb ddX2_detailOf_43 rfl (lv_at hl 0 rfl) ?_
    refine lv_iload hx hb ddX2_detailOf_44 (lv_at hl 4 rfl) ?_
    refine k_VI (As := [.int x4]) (rest := []) (c_X2_rankOf l X h) mf_X2_rankOf lk325 hx hb hml hown ht hK hZ hS hA 1 1 rfl rfl rfl ⟨rfl, rfl⟩ ⟨Nat.le_of_ble_eq_true rfl, Nat.le_of_ble_eq_true rfl⟩ rfl hl.1 rfl (Nat.le_of_ble_eq_true rfl) ⟨Nat.le_of_ble_eq_true rfl, Nat.le_of_ble_eq_true rfl⟩ ddX2_detailOf_46 (fun r5 σ4 H locs hS h => ?_)
    exact k_iret hx hb hr hlocks hK hS h ddX2_detailOf_49
  replace h := h.2
  by_cases c7 : x1 = (3 : Int32)
  · refine lv_tableIn (off := 49) (tgt := 50) hx hb ddX2_detailOf_1 (by rw [c7]; decide) (by rw [c7]; decide) (by rw [c7]; rfl) (by decide) ?_
    replace h := h.1 c7
    refine lv_iload_n hx hb ddX2_detailOf_50 rfl (lv_at hl 3 rfl) ?_
    exact k_iret hx hb hr hlocks hK hS h ddX2_detailOf_51
  replace h := h.2
  by_cases c10 : x1 = (4 : Int32)
  · refine lv_tableIn (off := 51) (tgt := 52) hx hb ddX2_detailOf_1 (by rw [c10]; decide) (by rw [c10]; decide) (by rw [c10]; rfl) (by decide) ?_
    replace h := h.1 c10
    refine lv_aload_n hx hb ddX2_detailOf_52 rfl (lv_at hl 0 rfl) ?_
    refine lv_iload hx hb ddX2_detailOf_53 (lv_at hl 4 rfl) ?_
    refine lv_iload_n hx hb ddX2_detailOf_55 rfl (lv_at hl 3 rfl) ?_
    refine k_VI (As := [.int x4, .int x3]) (rest := []) (c_X2_gateHeld l X h) mf_X2_gateHeld lk341 hx hb hml hown ht hK hZ hS hA 1 1 rfl rfl rfl ⟨rfl, rfl⟩ ⟨Nat.le_of_ble_eq_true rfl, Nat.le_of_ble_eq_true rfl⟩ rfl hl.1 rfl (Nat.le_of_ble_eq_true rfl) ⟨Nat.le_of_ble_eq_true rfl, Nat.le_of_ble_eq_true rfl⟩ ddX2_detailOf_56 (fun r9 σ8 H locs hS h => ?_)
    exact k_iret hx hb hr hlocks hK hS h ddX2_detailOf_59
  replace h := h.2
  by_cases c13 : x1 = (5 : Int32)
  · refine lv_tableIn (off := 59) (tgt := 60) hx hb ddX2_detailOf_1 (by rw [c13]; decide) (by rw [c13]; decide) (by rw [c13]; rfl) (by decide) ?_
    replace h := h.1 c13
    refine lv_aload_n hx hb ddX2_detailOf_60 rfl (lv_at hl 0 rfl) ?_
    refine lv_iload hx hb ddX2_detailOf_61 (lv_at hl 4 rfl) ?_
    refine lv_iload_n hx hb ddX2_detailOf_63 rfl (lv_at hl 3 rfl) ?_
    refine lv_iconst (v := (1 : Int32)) hx hb ddX2_detailOf_64 (by decide) ?_
    refine lv_isub hx hb ddX2_detailOf_65 ?_
    refine k_VI (As := [.int x4, .int (x3 - (1 : Int32))]) (rest := []) (c_X2_gateHeld l X h) mf_X2_gateHeld lk341 hx hb hml hown ht hK hZ hS hA 1 1 rfl rfl rfl ⟨rfl, rfl⟩ ⟨Nat.le_of_ble_eq_true rfl, Nat.le_of_ble_eq_true rfl⟩ rfl hl.1 rfl (Nat.le_of_ble_eq_true rfl) ⟨Nat.le_of_ble_eq_true rfl, Nat.le_of_ble_eq_true rfl⟩ ddX2_detailOf_66 (fun r12 σ11 H locs hS h => ?_)
    exact k_iret hx hb hr hlocks hK hS h ddX2_detailOf_69
  replace h := h.2
  refine lv_tableOut (tgt := 70) hx hb ddX2_detailOf_1 (by have := ne_toInt c3 (a := 1) rfl; have := ne_toInt c6 (a := 2) rfl; have := ne_toInt c7 (a := 3) rfl; have := ne_toInt c10 (a := 4) rfl; have := ne_toInt c13 (a := 5) rfl; omega) (by decide) ?_
  replace h := h c3 c6 c7 c10 c13
  refine lv_aload_n hx hb ddX2_detailOf_70 rfl (lv_at hl 0 rfl) ?_
  refine lv_iload hx hb ddX2_detailOf_71 (lv_at hl 4 rfl) ?_
  refine lv_iload_n hx hb ddX2_detailOf_73 rfl (lv_at hl 3 rfl) ?_
  refine lv_iconst (v := (1 : Int32)) hx hb ddX2_detailOf_74 (by decide) ?_
  refine lv_iadd hx hb ddX2_detailOf_75 ?_
  refine k_VI (As := [.int x4, .int (x3 + (1 : Int32))]) (rest := []) (c_X2_gateHeld l X h) mf_X2_gateHeld lk341 hx hb hml hown ht hK hZ hS hA 1 1 rfl rfl rfl ⟨rfl, rfl⟩ ⟨Nat.le_of_ble_eq_true rfl, Nat.le_of_ble_eq_true rfl⟩ rfl hl.1 rfl (Nat.le_of_ble_eq_true rfl) ⟨Nat.le_of_ble_eq_true rfl, Nat.le_of_ble_eq_true rfl⟩ ddX2_detailOf_76 (fun r15 σ14 H locs hS h => ?_)
  exact k_iret hx hb hr hlocks hK hS h ddX2_detailOf_79

set_option maxHeartbeats 4000000 in
set_option maxRecDepth 100000 in
theorem c_X2_nextSlotOf (l : Launch) (X : GX) {x1 : Int32} {σ : Mem} {K : Int32 → Mem → Prop} (h : wp_X2_nextSlotOf x1 σ K) : MI l X yX2_nextSlotOf cX2_nextSlotOf 3 ((Option.some Jvm.ClassFile.FieldType.int)) ({ frames := 1, cells := 0, slots := 0, locals := 23 } : Room) [.ref (ga X 1), .int x1] σ K := by
  refine ent_met (QQ := fun A => va_Qi K (BW X A) A) (by decide) (Nat.le_of_ble_eq_true rfl) ?_
  intro p e s m args below meth c A ls hx hb hr hlocks hml hown ht hK hZ hA hS hl
  have hown : s.vm.findClass "GuardRoster$Roster" = some m.cls := hown
  have hl : lv_has ls 3 [(0, .ref (ga X 1)), (1, .int x1)] := hl
  have hL5 : ∀ (n : Nat) (x1 x2 : Int32) (σ : Mem) (H : Heap) (locs : List Loc) (ls : Array Slot), WS X A s.heap σ H locs → lv_has ls 3 [(0, .ref (ga X 1)), (1, .int x1), (2, .int x2)] → wlp (wpF_X2_nextSlotOf_5 K) n (x1, x2, σ) → WI X K p l e ({ frames := 1, cells := 0, slots := 0, locals := 23 } : Room) s m args below meth c A H locs (F0 m 5 ls []) := by
    intro n5
    induction n5 with
    | zero => intro x1 x2 σ H locs ls hS hl h; exact h.elim
    | succ n5 ih5 =>
      intro x1 x2 σ H locs ls hS hl h
      replace h : wpS_X2_nextSlotOf_5 K (wlp (wpF_X2_nextSlotOf_5 K) n5) x1 x2 σ := h
      unfold wpS_X2_nextSlotOf_5 at h
      refine lv_iload_n hx hb ddX2_nextSlotOf_5 rfl (lv_at hl 2 rfl) ?_
      refine lv_bipush (v := (28 : Int32)) hx hb ddX2_nextSlotOf_6 (by decide) ?_
      refine lv_icmp_ge (tgt := 29) hx hb ddX2_nextSlotOf_8 (by decide) (fun c3 => ?_) (fun c3 => ?_)
      · replace h := h.1 c3
        refine lv_iconst (v := (-1 : Int32)) hx hb ddX2_nextSlotOf_29 (by decide) ?_
        exact k_iret hx hb hr hlocks hK hS h ddX2_nextSlotOf_30
      · replace h := h.2 c3
        refine lv_aload_n hx hb ddX2_nextSlotOf_11 rfl (lv_at hl 0 rfl) ?_
        refine lv_iload_n hx hb ddX2_nextSlotOf_12 rfl (lv_at hl 1 rfl) ?_
        refine lv_iload_n hx hb ddX2_nextSlotOf_13 rfl (lv_at hl 2 rfl) ?_
        refine k_VI (As := [.int x1, .int x2]) (rest := []) (c_X2_gateHeld l X h) mf_X2_gateHeld lk341 hx hb hml hown ht hK hZ hS hA 1 1 rfl rfl rfl ⟨rfl, rfl⟩ ⟨Nat.le_of_ble_eq_true rfl, Nat.le_of_ble_eq_true rfl⟩ rfl hl.1 rfl (Nat.le_of_ble_eq_true rfl) ⟨Nat.le_of_ble_eq_true rfl, Nat.le_of_ble_eq_true rfl⟩ ddX2_nextSlotOf_14 (fun r5 σ4 H locs hS h => ?_)
        refine lv_iconst (v := (-1 : Int32)) hx hb ddX2_nextSlotOf_17 (by decide) ?_
        refine lv_icmp_eq (tgt := 23) hx hb ddX2_nextSlotOf_18 (by decide) (fun c6 => ?_) (fun c6 => ?_)
        · replace h := h.1 c6
          obtain ⟨v7, ev7⟩ : ∃ y : Int32, y = x2 + (1 : Int32) := ⟨_, rfl⟩
          replace h := h v7 ev7
          refine lv_iinc (v := v7) (lv' := [(2, .int v7), (0, .ref (ga X 1)), (1, .int x1)]) hx hb ddX2_nextSlotOf_23 hl (k := 2) rfl (by rw [ev7]; rfl) (by decide) rfl (fun ls hl => ?_)
          refine lv_goto (tgt := 5) hx hb ddX2_nextSlotOf_26 (by decide) ?_
          exact ih5 _ _ _ _ _ _ hS (lv_sub hl [1, 2, 0] rfl) h
        · replace h := h.2 c6
          refine lv_iload_n hx hb ddX2_nextSlotOf_21 rfl (lv_at hl 2 rfl) ?_
          exact k_iret hx hb hr hlocks hK hS h ddX2_nextSlotOf_22
  unfold wp_X2_nextSlotOf at h
  refine lv_aload_n hx hb ddX2_nextSlotOf_0 rfl (lv_at hl 0 rfl) ?_
  refine k_VI (As := []) (rest := []) (c_X2_now l X h) mf_X2_now lk198 hx hb hml hown ht hK hZ hS hA 1 1 rfl rfl rfl ⟨rfl, rfl⟩ ⟨Nat.le_of_ble_eq_true rfl, Nat.le_of_ble_eq_true rfl⟩ rfl hl.1 rfl (Nat.le_of_ble_eq_true rfl) ⟨Nat.le_of_ble_eq_true rfl, Nat.le_of_ble_eq_true rfl⟩ ddX2_nextSlotOf_1 (fun r2 σ1 H locs hS h => ?_)
  refine lv_istore_n (lv' := [(2, .int r2), (0, .ref (ga X 1)), (1, .int x1)]) hx hb ddX2_nextSlotOf_4 rfl hl (by decide) rfl (fun ls hl => ?_)
  obtain ⟨n, h⟩ := h
  exact hL5 n _ _ _ _ _ _ hS (lv_sub hl [1, 2, 0] rfl) h

set_option maxHeartbeats 4000000 in
set_option maxRecDepth 100000 in
theorem c_X2_longestGap (l : Launch) (X : GX) {x1 : Int32} {σ : Mem} {K : Int32 → Mem → Prop} (h : wp_X2_longestGap x1 σ K) : MI l X yX2_longestGap cX2_longestGap 5 ((Option.some Jvm.ClassFile.FieldType.int)) ({ frames := 1, cells := 0, slots := 0, locals := 23 } : Room) [.ref (ga X 1), .int x1] σ K := by
  refine ent_met (QQ := fun A => va_Qi K (BW X A) A) (by decide) (Nat.le_of_ble_eq_true rfl) ?_
  intro p e s m args below meth c A ls hx hb hr hlocks hml hown ht hK hZ hA hS hl
  have hown : s.vm.findClass "GuardRoster$Roster" = some m.cls := hown
  have hl : lv_has ls 5 [(0, .ref (ga X 1)), (1, .int x1)] := hl
  have hL7 : ∀ (n : Nat) (x1 x2 x3 x4 : Int32) (σ : Mem) (H : Heap) (locs : List Loc) (ls : Array Slot), WS X A s.heap σ H locs → lv_has ls 5 [(0, .ref (ga X 1)), (1, .int x1), (2, .int x2), (3, .int x3), (4, .int x4)] → wlp (wpF_X2_longestGap_7 K) n (x1, x2, x3, x4, σ) → WI X K p l e ({ frames := 1, cells := 0, slots := 0, locals := 23 } : Room) s m args below meth c A H locs (F0 m 7 ls []) := by
    intro n7
    induction n7 with
    | zero => intro x1 x2 x3 x4 σ H locs ls hS hl h; exact h.elim
    | succ n7 ih7 =>
      have hJ32 : ∀ (x1 x2 x4 y0 : Int32) (σ : Mem) (H : Heap) (locs : List Loc) (ls : Array Slot), WS X A s.heap σ H locs → lv_has ls 5 [(0, .ref (ga X 1)), (1, .int x1), (2, .int x2), (4, .int x4)] → wpJ_X2_longestGap_32 K (wlp (wpF_X2_longestGap_7 K) n7) x1 x2 x4 y0 σ → WI X K p l e ({ frames := 1, cells := 0, slots := 0, locals := 23 } : Room) s m args below meth c A H locs (F0 m 32 ls [.int y0]) := by
        intro x1 x2 x4 y0 σ H locs ls hS hl h
        unfold wpJ_X2_longestGap_32 at h
        refine lv_istore_n (lv' := [(3, .int y0), (0, .ref (ga X 1)), (1, .int x1), (2, .int x2), (4, .int x4)]) hx hb ddX2_longestGap_32 rfl hl (by decide) rfl (fun ls hl => ?_)
        refine lv_iload_n hx hb ddX2_longestGap_33 rfl (lv_at hl 3 rfl) ?_
        refine lv_iload_n hx hb ddX2_longestGap_34 rfl (lv_at hl 0 rfl) ?_
        refine k_max hx hb (hml.trans hl.1.symm) hown ht lk170 (Nat.le_of_ble_eq_true rfl) (Nat.le_of_ble_eq_true rfl) ddX2_longestGap_35 ?_
        refine lv_topi (fun v5 ev5 => ?_)
        replace h := h v5 ev5
        refine lv_istore_n (lv' := [(2, .int v5), (3, .int y0), (0, .ref (ga X 1)), (1, .int x1), (4, .int x4)]) hx hb ddX2_longestGap_38 rfl hl (by decide) rfl (fun ls hl => ?_)
        obtain ⟨v6, ev6⟩ : ∃ y : Int32, y = x4 + (1 : Int32) := ⟨_, rfl⟩
        replace h := h v6 ev6
        refine lv_iinc (v := v6) (lv' := [(4, .int v6), (2, .int v5), (3, .int y0), (0, .ref (ga X 1)), (1, .int x1)]) hx hb ddX2_longestGap_39 hl (k := 4) rfl (by rw [ev6]; rfl) (by decide) rfl (fun ls hl => ?_)
        refine lv_goto (tgt := 7) hx hb ddX2_longestGap_42 (by decide) ?_
        exact ih7 _ _ _ _ _ _ _ _ hS (lv_sub hl [3, 4, 1, 2, 0] rfl) h
      intro x1 x2 x3 x4 σ H locs ls hS hl h
      replace h : wpS_X2_longestGap_7 K (wlp (wpF_X2_longestGap_7 K) n7) x1 x2 x3 x4 σ := h
      unfold wpS_X2_longestGap_7 at h
      refine lv_iload hx hb ddX2_longestGap_7 (lv_at hl 4 rfl) ?_
      refine lv_bipush (v := (28 : Int32)) hx hb ddX2_longestGap_9 (by decide) ?_
      refine lv_icmp_ge (tgt := 45) hx hb ddX2_longestGap_11 (by decide) (fun c1 => ?_) (fun c1 => ?_)
      · replace h := h.1 c1
        refine lv_iload_n hx hb ddX2_longestGap_45 rfl (lv_at hl 2 rfl) ?_
        exact k_iret hx hb hr hlocks hK hS h ddX2_longestGap_46
      · replace h := h.2 c1
        refine lv_aload_n hx hb ddX2_longestGap_14 rfl (lv_at hl 0 rfl) ?_
        refine lv_iload_n hx hb ddX2_longestGap_15 rfl (lv_at hl 1 rfl) ?_
        refine lv_iload hx hb ddX2_longestGap_16 (lv_at hl 4 rfl) ?_
        refine k_VI (As := [.int x1, .int x4]) (rest := []) (c_X2_gateHeld l X h) mf_X2_gateHeld lk341 hx hb hml hown ht hK hZ hS hA 1 1 rfl rfl rfl ⟨rfl, rfl⟩ ⟨Nat.le_of_ble_eq_true rfl, Nat.le_of_ble_eq_true rfl⟩ rfl hl.1 rfl (Nat.le_of_ble_eq_true rfl) ⟨Nat.le_of_ble_eq_true rfl, Nat.le_of_ble_eq_true rfl⟩ ddX2_longestGap_18 (fun r3 σ2 H locs hS h => ?_)
        refine lv_iconst (v := (-1 : Int32)) hx hb ddX2_longestGap_21 (by decide) ?_
        refine lv_icmp_ne (tgt := 31) hx hb ddX2_longestGap_22 (by decide) (fun c4 => ?_) (fun c4 => ?_)
        · replace h := h.1 c4
          refine lv_iconst (v := (0 : Int32)) hx hb ddX2_longestGap_31 (by decide) ?_
          exact hJ32 _ _ _ _ _ _ _ _ hS (lv_sub hl [0, 1, 2, 4] rfl) h
        · replace h := h.2 c4
          refine lv_iload_n hx hb ddX2_longestGap_25 rfl (lv_at hl 3 rfl) ?_
          refine lv_iconst (v := (1 : Int32)) hx hb ddX2_longestGap_26 (by decide) ?_
          refine lv_iadd hx hb ddX2_longestGap_27 ?_
          refine lv_goto (tgt := 32) hx hb ddX2_longestGap_28 (by decide) ?_
          exact hJ32 _ _ _ _ _ _ _ _ hS (lv_sub hl [0, 1, 2, 4] rfl) h
  unfold wp_X2_longestGap at h
  refine lv_iconst (v := (0 : Int32)) hx hb ddX2_longestGap_0 (by decide) ?_
  refine lv_istore_n (lv' := [(2, .int (0 : Int32)), (0, .ref (ga X 1)), (1, .int x1)]) hx hb ddX2_longestGap_1 rfl hl (by decide) rfl (fun ls hl => ?_)
  refine lv_iconst (v := (0 : Int32)) hx hb ddX2_longestGap_2 (by decide) ?_
  refine lv_istore_n (lv' := [(3, .int (0 : Int32)), (2, .int (0 : Int32)), (0, .ref (ga X 1)), (1, .int x1)]) hx hb ddX2_longestGap_3 rfl hl (by decide) rfl (fun ls hl => ?_)
  refine lv_iconst (v := (0 : Int32)) hx hb ddX2_longestGap_4 (by decide) ?_
  refine lv_istore (lv' := [(4, .int (0 : Int32)), (3, .int (0 : Int32)), (2, .int (0 : Int32)), (0, .ref (ga X 1)), (1, .int x1)]) hx hb ddX2_longestGap_5 hl (by decide) rfl (fun ls hl => ?_)
  obtain ⟨n, h⟩ := h
  exact hL7 n _ _ _ _ _ _ _ _ hS (lv_sub hl [3, 4, 2, 1, 0] rfl) h

set_option maxHeartbeats 4000000 in
set_option maxRecDepth 100000 in
theorem c_X2_allRest (l : Launch) (X : GX) {σ : Mem} {K : Int32 → Mem → Prop} (h : wp_X2_allRest σ K) : MI l X yX2_allRest cX2_allRest 3 ((Option.some Jvm.ClassFile.FieldType.boolean)) ({ frames := 1, cells := 0, slots := 0, locals := 23 } : Room) [.ref (ga X 1)] σ K := by
  refine ent_met (QQ := fun A => va_Qi K (BW X A) A) (by decide) (Nat.le_of_ble_eq_true rfl) ?_
  intro p e s m args below meth c A ls hx hb hr hlocks hml hown ht hK hZ hA hS hl
  have hown : s.vm.findClass "GuardRoster$Roster" = some m.cls := hown
  have hl : lv_has ls 3 [(0, .ref (ga X 1))] := hl
  have hL2 : ∀ (n : Nat) (x1 : Int32) (σ : Mem) (H : Heap) (locs : List Loc) (ls : Array Slot), WS X A s.heap σ H locs → lv_has ls 3 [(0, .ref (ga X 1)), (1, .int x1)] → wlp (wpF_X2_allRest_2 K) n (x1, σ) → WI X K p l e ({ frames := 1, cells := 0, slots := 0, locals := 23 } : Room) s m args below meth c A H locs (F0 m 2 ls []) := by
    intro n2
    induction n2 with
    | zero => intro x1 σ H locs ls hS hl h; exact h.elim
    | succ n2 ih2 =>
      have hJ48 : ∀ (x1 : Int32) (σ : Mem) (H : Heap) (locs : List Loc) (ls : Array Slot), WS X A s.heap σ H locs → lv_has ls 3 [(0, .ref (ga X 1)), (1, .int x1)] → wpJ_X2_allRest_48 K (wlp (wpF_X2_allRest_2 K) n2) x1 σ → WI X K p l e ({ frames := 1, cells := 0, slots := 0, locals := 23 } : Room) s m args below meth c A H locs (F0 m 48 ls []) := by
        intro x1 σ H locs ls hS hl h
        unfold wpJ_X2_allRest_48 at h
        obtain ⟨v5, ev5⟩ : ∃ y : Int32, y = x1 + (1 : Int32) := ⟨_, rfl⟩
        replace h := h v5 ev5
        refine lv_iinc (v := v5) (lv' := [(1, .int v5), (0, .ref (ga X 1))]) hx hb ddX2_allRest_48 hl (k := 1) rfl (by rw [ev5]; rfl) (by decide) rfl (fun ls hl => ?_)
        refine lv_goto (tgt := 2) hx hb ddX2_allRest_51 (by decide) ?_
        exact ih2 _ _ _ _ _ hS (lv_sub hl [1, 0] rfl) h
      have hL12 : ∀ (n : Nat) (x1 x2 : Int32) (σ : Mem) (H : Heap) (locs : List Loc) (ls : Array Slot), WS X A s.heap σ H locs → lv_has ls 3 [(0, .ref (ga X 1)), (1, .int x1), (2, .int x2)] → wlp (wpF_X2_allRest_12 K (wlp (wpF_X2_allRest_2 K) n2)) n (x1, x2, σ) → WI X K p l e ({ frames := 1, cells := 0, slots := 0, locals := 23 } : Room) s m args below meth c A H locs (F0 m 12 ls []) := by
        intro n12
        induction n12 with
        | zero => intro x1 x2 σ H locs ls hS hl h; exact h.elim
        | succ n12 ih12 =>
          have hJ42 : ∀ (x1 x2 : Int32) (σ : Mem) (H : Heap) (locs : List Loc) (ls : Array Slot), WS X A s.heap σ H locs → lv_has ls 3 [(0, .ref (ga X 1)), (1, .int x1), (2, .int x2)] → wpJ_X2_allRest_42 K (wlp (wpF_X2_allRest_2 K) n2) (wlp (wpF_X2_allRest_12 K (wlp (wpF_X2_allRest_2 K) n2)) n12) x1 x2 σ → WI X K p l e ({ frames := 1, cells := 0, slots := 0, locals := 23 } : Room) s m args below meth c A H locs (F0 m 42 ls []) := by
            intro x1 x2 σ H locs ls hS hl h
            unfold wpJ_X2_allRest_42 at h
            obtain ⟨v9, ev9⟩ : ∃ y : Int32, y = x2 + (1 : Int32) := ⟨_, rfl⟩
            replace h := h v9 ev9
            refine lv_iinc (v := v9) (lv' := [(2, .int v9), (0, .ref (ga X 1)), (1, .int x1)]) hx hb ddX2_allRest_42 hl (k := 2) rfl (by rw [ev9]; rfl) (by decide) rfl (fun ls hl => ?_)
            refine lv_goto (tgt := 12) hx hb ddX2_allRest_45 (by decide) ?_
            exact ih12 _ _ _ _ _ _ hS (lv_sub hl [1, 2, 0] rfl) h
          intro x1 x2 σ H locs ls hS hl h
          replace h : wpS_X2_allRest_12 K (wlp (wpF_X2_allRest_2 K) n2) (wlp (wpF_X2_allRest_12 K (wlp (wpF_X2_allRest_2 K) n2)) n12) x1 x2 σ := h
          unfold wpS_X2_allRest_12 at h
          refine lv_iload_n hx hb ddX2_allRest_12 rfl (lv_at hl 2 rfl) ?_
          refine lv_bipush (v := (28 : Int32)) hx hb ddX2_allRest_13 (by decide) ?_
          refine lv_icmp_ge (tgt := 48) hx hb ddX2_allRest_15 (by decide) (fun c4 => ?_) (fun c4 => ?_)
          · replace h := h.1 c4
            exact hJ48 _ _ _ _ _ hS (lv_sub hl [0, 1] rfl) h
          · replace h := h.2 c4
            refine lv_aload_n hx hb ddX2_allRest_18 rfl (lv_at hl 0 rfl) ?_
            refine lv_iload_n hx hb ddX2_allRest_19 rfl (lv_at hl 1 rfl) ?_
            refine lv_iload_n hx hb ddX2_allRest_20 rfl (lv_at hl 2 rfl) ?_
            refine lv_iconst (v := (1 : Int32)) hx hb ddX2_allRest_21 (by decide) ?_
            refine lv_isub hx hb ddX2_allRest_22 ?_
            refine k_VI (As := [.int x1, .int (x2 - (1 : Int32))]) (rest := []) (c_X2_gateHeld l X h) mf_X2_gateHeld lk341 hx hb hml hown ht hK hZ hS hA 1 1 rfl rfl rfl ⟨rfl, rfl⟩ ⟨Nat.le_of_ble_eq_true rfl, Nat.le_of_ble_eq_true rfl⟩ rfl hl.1 rfl (Nat.le_of_ble_eq_true rfl) ⟨Nat.le_of_ble_eq_true rfl, Nat.le_of_ble_eq_true rfl⟩ ddX2_allRest_23 (fun r7 σ6 H locs hS h => ?_)
            refine lv_iconst (v := (-1 : Int32)) hx hb ddX2_allRest_26 (by decide) ?_
            refine lv_icmp_eq (tgt := 42) hx hb ddX2_allRest_27 (by decide) (fun c8 => ?_) (fun c8 => ?_)
            · replace h := h.1 c8
              exact hJ42 _ _ _ _ _ _ hS (lv_sub hl [0, 1, 2] rfl) h
            · replace h := h.2 c8
              refine lv_aload_n hx hb ddX2_allRest_30 rfl (lv_at hl 0 rfl) ?_
              refine lv_iload_n hx hb ddX2_allRest_31 rfl (lv_at hl 1 rfl) ?_
              refine lv_iload_n hx hb ddX2_allRest_32 rfl (lv_at hl 2 rfl) ?_
              refine k_VI (As := [.int x1, .int x2]) (rest := []) (c_X2_gateHeld l X h) mf_X2_gateHeld lk341 hx hb hml hown ht hK hZ hS hA 1 1 rfl rfl rfl ⟨rfl, rfl⟩ ⟨Nat.le_of_ble_eq_true rfl, Nat.le_of_ble_eq_true rfl⟩ rfl hl.1 rfl (Nat.le_of_ble_eq_true rfl) ⟨Nat.le_of_ble_eq_true rfl, Nat.le_of_ble_eq_true rfl⟩ ddX2_allRest_33 (fun r11 σ10 H locs hS h => ?_)
              refine lv_iconst (v := (-1 : Int32)) hx hb ddX2_allRest_36 (by decide) ?_
              refine lv_icmp_eq (tgt := 42) hx hb ddX2_allRest_37 (by decide) (fun c12 => ?_) (fun c12 => ?_)
              · replace h := h.1 c12
                exact hJ42 _ _ _ _ _ _ hS (lv_sub hl [0, 1, 2] rfl) h
              · replace h := h.2 c12
                refine lv_iconst (v := (0 : Int32)) hx hb ddX2_allRest_40 (by decide) ?_
                exact k_zret hx hb hr hlocks hK hS rfl h ddX2_allRest_41
      intro x1 σ H locs ls hS hl h
      replace h : wpS_X2_allRest_2 K (wlp (wpF_X2_allRest_2 K) n2) x1 σ := h
      unfold wpS_X2_allRest_2 at h
      refine lv_iload_n hx hb ddX2_allRest_2 rfl (lv_at hl 1 rfl) ?_
      refine lv_aload_n hx hb ddX2_allRest_3 rfl (lv_at hl 0 rfl) ?_
      refine k_VI (As := []) (rest := [.int x1]) (c_X2_guards l X h) mf_X2_guards lk375 hx hb hml hown ht hK hZ hS hA 1 1 rfl rfl rfl ⟨rfl, rfl⟩ ⟨Nat.le_of_ble_eq_true rfl, Nat.le_of_ble_eq_true rfl⟩ rfl hl.1 rfl (Nat.le_of_ble_eq_true rfl) ⟨Nat.le_of_ble_eq_true rfl, Nat.le_of_ble_eq_true rfl⟩ ddX2_allRest_4 (fun r2 σ1 H locs hS h => ?_)
      refine lv_icmp_ge (tgt := 54) hx hb ddX2_allRest_7 (by decide) (fun c3 => ?_) (fun c3 => ?_)
      · replace h := h.1 c3
        refine lv_iconst (v := (1 : Int32)) hx hb ddX2_allRest_54 (by decide) ?_
        exact k_zret hx hb hr hlocks hK hS rfl h ddX2_allRest_55
      · replace h := h.2 c3
        refine lv_iconst (v := (1 : Int32)) hx hb ddX2_allRest_10 (by decide) ?_
        refine lv_istore_n (lv' := [(2, .int (1 : Int32)), (0, .ref (ga X 1)), (1, .int x1)]) hx hb ddX2_allRest_11 rfl hl (by decide) rfl (fun ls hl => ?_)
        obtain ⟨n, h⟩ := h
        exact hL12 n _ _ _ _ _ _ hS (lv_sub hl [1, 2, 0] rfl) h
  unfold wp_X2_allRest at h
  refine lv_iconst (v := (0 : Int32)) hx hb ddX2_allRest_0 (by decide) ?_
  refine lv_istore_n (lv' := [(1, .int (0 : Int32)), (0, .ref (ga X 1))]) hx hb ddX2_allRest_1 rfl hl (by decide) rfl (fun ls hl => ?_)
  obtain ⟨n, h⟩ := h
  exact hL2 n _ _ _ _ _ hS (lv_sub hl [1, 0] rfl) h

set_option maxHeartbeats 4000000 in
set_option maxRecDepth 100000 in
theorem c_X2_computeOrderKeys (l : Launch) (X : GX) {σ : Mem} {K : Mem → Prop} (h : wp_X2_computeOrderKeys σ K) : MV l X yX2_computeOrderKeys cX2_computeOrderKeys 2 ((Option.none : Option Jvm.ClassFile.FieldType)) ({ frames := 2, cells := 0, slots := 0, locals := 42 } : Room) [.ref (ga X 1)] σ K := by
  refine ent_met (QQ := fun A => va_Qv K (BW X A) A) (by decide) (Nat.le_of_ble_eq_true rfl) ?_
  intro p e s m args below meth c A ls hx hb hr hlocks hml hown ht hK hZ hA hS hl
  have hown : s.vm.findClass "GuardRoster$Roster" = some m.cls := hown
  have hl : lv_has ls 2 [(0, .ref (ga X 1))] := hl
  have hL2 : ∀ (n : Nat) (x1 : Int32) (σ : Mem) (H : Heap) (locs : List Loc) (ls : Array Slot), WS X A s.heap σ H locs → lv_has ls 2 [(0, .ref (ga X 1)), (1, .int x1)] → wlp (wpF_X2_computeOrderKeys_2 K) n (x1, σ) → WV X K p l e ({ frames := 2, cells := 0, slots := 0, locals := 42 } : Room) s m args below meth c A H locs (F0 m 2 ls []) := by
    intro n2
    induction n2 with
    | zero => intro x1 σ H locs ls hS hl h; exact h.elim
    | succ n2 ih2 =>
      intro x1 σ H locs ls hS hl h
      replace h : wpS_X2_computeOrderKeys_2 K (wlp (wpF_X2_computeOrderKeys_2 K) n2) x1 σ := h
      unfold wpS_X2_computeOrderKeys_2 at h
      refine lv_iload_n hx hb ddX2_computeOrderKeys_2 rfl (lv_at hl 1 rfl) ?_
      refine lv_bipush (v := (10 : Int32)) hx hb ddX2_computeOrderKeys_3 (by decide) ?_
      refine lv_icmp_ge (tgt := 39) hx hb ddX2_computeOrderKeys_5 (by decide) (fun c1 => ?_) (fun c1 => ?_)
      · replace h := h.1 c1
        exact k_vret hx hb hr hlocks hK hS h ddX2_computeOrderKeys_39
      · replace h := h.2 c1
        refine lv_aload_n hx hb ddX2_computeOrderKeys_8 rfl (lv_at hl 0 rfl) ?_
        refine get_1_1 hx hb hown ht hK hS lk39 ddX2_computeOrderKeys_9 ?_
        refine lv_iload_n hx hb ddX2_computeOrderKeys_12 rfl (lv_at hl 1 rfl) ?_
        refine lv_aload_n hx hb ddX2_computeOrderKeys_13 rfl (lv_at hl 0 rfl) ?_
        refine lv_iload_n hx hb ddX2_computeOrderKeys_14 rfl (lv_at hl 1 rfl) ?_
        refine k_VI (As := [.int x1]) (rest := [.int x1, .ref (ga X 3)]) (c_X2_dutyTotal l X h) mf_X2_dutyTotal lk661 hx hb hml hown ht hK hZ hS hA 1 1 rfl rfl rfl ⟨rfl, rfl⟩ ⟨Nat.le_of_ble_eq_true rfl, Nat.le_of_ble_eq_true rfl⟩ rfl hl.1 rfl (Nat.le_of_ble_eq_true rfl) ⟨Nat.le_of_ble_eq_true rfl, Nat.le_of_ble_eq_true rfl⟩ ddX2_computeOrderKeys_15 (fun r3 σ2 H locs hS h => ?_)
        refine lv_bipush (v := (10 : Int32)) hx hb ddX2_computeOrderKeys_18 (by decide) ?_
        refine lv_imul hx hb ddX2_computeOrderKeys_20 ?_
        refine lv_aload_n hx hb ddX2_computeOrderKeys_21 rfl (lv_at hl 0 rfl) ?_
        refine lv_iload_n hx hb ddX2_computeOrderKeys_22 rfl (lv_at hl 1 rfl) ?_
        refine k_VI (As := [.int x1]) (rest := [.int (r3 * (10 : Int32)), .int x1, .ref (ga X 3)]) (c_X2_rankOf l X h) mf_X2_rankOf lk325 hx hb hml hown ht hK hZ hS hA 1 1 rfl rfl rfl ⟨rfl, rfl⟩ ⟨Nat.le_of_ble_eq_true rfl, Nat.le_of_ble_eq_true rfl⟩ rfl hl.1 rfl (Nat.le_of_ble_eq_true rfl) ⟨Nat.le_of_ble_eq_true rfl, Nat.le_of_ble_eq_true rfl⟩ ddX2_computeOrderKeys_23 (fun r5 σ4 H locs hS h => ?_)
        refine lv_iadd hx hb ddX2_computeOrderKeys_26 ?_
        refine lv_bipush (v := (10 : Int32)) hx hb ddX2_computeOrderKeys_27 (by decide) ?_
        refine lv_imul hx hb ddX2_computeOrderKeys_29 ?_
        refine lv_iload_n hx hb ddX2_computeOrderKeys_30 rfl (lv_at hl 1 rfl) ?_
        refine lv_iadd hx hb ddX2_computeOrderKeys_31 ?_
        refine ast_3 hx hb hK hS h.1 ddX2_computeOrderKeys_32 (fun H locs hS => ?_)
        replace h := h.2
        obtain ⟨σ6, eσ6⟩ : ∃ y : Mem, y = (st σ4 3 x1.toNatClampNeg ((((r3 * (10 : Int32)) + r5) * (10 : Int32)) + x1)) := ⟨_, rfl⟩
        rw [← eσ6] at hS
        replace h := h σ6 eσ6
        obtain ⟨v7, ev7⟩ : ∃ y : Int32, y = x1 + (1 : Int32) := ⟨_, rfl⟩
        replace h := h v7 ev7
        refine lv_iinc (v := v7) (lv' := [(1, .int v7), (0, .ref (ga X 1))]) hx hb ddX2_computeOrderKeys_33 hl (k := 1) rfl (by rw [ev7]; rfl) (by decide) rfl (fun ls hl => ?_)
        refine lv_goto (tgt := 2) hx hb ddX2_computeOrderKeys_36 (by decide) ?_
        exact ih2 _ _ _ _ _ hS (lv_sub hl [1, 0] rfl) h
  unfold wp_X2_computeOrderKeys at h
  refine lv_iconst (v := (0 : Int32)) hx hb ddX2_computeOrderKeys_0 (by decide) ?_
  refine lv_istore_n (lv' := [(1, .int (0 : Int32)), (0, .ref (ga X 1))]) hx hb ddX2_computeOrderKeys_1 rfl hl (by decide) rfl (fun ls hl => ?_)
  obtain ⟨n, h⟩ := h
  exact hL2 n _ _ _ _ _ hS (lv_sub hl [1, 0] rfl) h

set_option maxHeartbeats 4000000 in
set_option maxRecDepth 100000 in
theorem c_X2_guardsBefore (l : Launch) (X : GX) {x1 : Int32} {σ : Mem} {K : Int32 → Mem → Prop} (h : wp_X2_guardsBefore x1 σ K) : MI l X yX2_guardsBefore cX2_guardsBefore 4 ((Option.some Jvm.ClassFile.FieldType.int)) ({ frames := 1, cells := 0, slots := 0, locals := 20 } : Room) [.ref (ga X 1), .int x1] σ K := by
  refine ent_met (QQ := fun A => va_Qi K (BW X A) A) (by decide) (Nat.le_of_ble_eq_true rfl) ?_
  intro p e s m args below meth c A ls hx hb hr hlocks hml hown ht hK hZ hA hS hl
  have hown : s.vm.findClass "GuardRoster$Roster" = some m.cls := hown
  have hl : lv_has ls 4 [(0, .ref (ga X 1)), (1, .int x1)] := hl
  have hL4 : ∀ (n : Nat) (x1 x2 x3 : Int32) (σ : Mem) (H : Heap) (locs : List Loc) (ls : Array Slot), WS X A s.heap σ H locs → lv_has ls 4 [(0, .ref (ga X 1)), (1, .int x1), (2, .int x2), (3, .int x3)] → wlp (wpF_X2_guardsBefore_4 K) n (x1, x2, x3, σ) → WI X K p l e ({ frames := 1, cells := 0, slots := 0, locals := 20 } : Room) s m args below meth c A H locs (F0 m 4 ls []) := by
    intro n4
    induction n4 with
    | zero => intro x1 x2 x3 σ H locs ls hS hl h; exact h.elim
    | succ n4 ih4 =>
      have hJ31 : ∀ (x1 x2 x3 : Int32) (σ : Mem) (H : Heap) (locs : List Loc) (ls : Array Slot), WS X A s.heap σ H locs → lv_has ls 4 [(0, .ref (ga X 1)), (1, .int x1), (2, .int x2), (3, .int x3)] → wpJ_X2_guardsBefore_31 K (wlp (wpF_X2_guardsBefore_4 K) n4) x1 x2 x3 σ → WI X K p l e ({ frames := 1, cells := 0, slots := 0, locals := 20 } : Room) s m args below meth c A H locs (F0 m 31 ls []) := by
        intro x1 x2 x3 σ H locs ls hS hl h
        unfold wpJ_X2_guardsBefore_31 at h
        obtain ⟨v6, ev6⟩ : ∃ y : Int32, y = x3 + (1 : Int32) := ⟨_, rfl⟩
        replace h := h v6 ev6
        refine lv_iinc (v := v6) (lv' := [(3, .int v6), (0, .ref (ga X 1)), (1, .int x1), (2, .int x2)]) hx hb ddX2_guardsBefore_31 hl (k := 3) rfl (by rw [ev6]; rfl) (by decide) rfl (fun ls hl => ?_)
        refine lv_goto (tgt := 4) hx hb ddX2_guardsBefore_34 (by decide) ?_
        exact ih4 _ _ _ _ _ _ _ hS (lv_sub hl [1, 2, 3, 0] rfl) h
      intro x1 x2 x3 σ H locs ls hS hl h
      replace h : wpS_X2_guardsBefore_4 K (wlp (wpF_X2_guardsBefore_4 K) n4) x1 x2 x3 σ := h
      unfold wpS_X2_guardsBefore_4 at h
      refine lv_iload_n hx hb ddX2_guardsBefore_4 rfl (lv_at hl 3 rfl) ?_
      refine lv_bipush (v := (10 : Int32)) hx hb ddX2_guardsBefore_5 (by decide) ?_
      refine lv_icmp_ge (tgt := 37) hx hb ddX2_guardsBefore_7 (by decide) (fun c1 => ?_) (fun c1 => ?_)
      · replace h := h.1 c1
        refine lv_iload_n hx hb ddX2_guardsBefore_37 rfl (lv_at hl 2 rfl) ?_
        exact k_iret hx hb hr hlocks hK hS h ddX2_guardsBefore_38
      · replace h := h.2 c1
        refine lv_iload_n hx hb ddX2_guardsBefore_10 rfl (lv_at hl 3 rfl) ?_
        refine lv_aload_n hx hb ddX2_guardsBefore_11 rfl (lv_at hl 0 rfl) ?_
        refine k_VI (As := []) (rest := [.int x3]) (c_X2_guards l X h) mf_X2_guards lk375 hx hb hml hown ht hK hZ hS hA 1 1 rfl rfl rfl ⟨rfl, rfl⟩ ⟨Nat.le_of_ble_eq_true rfl, Nat.le_of_ble_eq_true rfl⟩ rfl hl.1 rfl (Nat.le_of_ble_eq_true rfl) ⟨Nat.le_of_ble_eq_true rfl, Nat.le_of_ble_eq_true rfl⟩ ddX2_guardsBefore_12 (fun r3 σ2 H locs hS h => ?_)
        refine lv_icmp_ge (tgt := 37) hx hb ddX2_guardsBefore_15 (by decide) (fun c4 => ?_) (fun c4 => ?_)
        · replace h := h.1 c4
          refine lv_iload_n hx hb ddX2_guardsBefore_37 rfl (lv_at hl 2 rfl) ?_
          exact k_iret hx hb hr hlocks hK hS h ddX2_guardsBefore_38
        · replace h := h.2 c4
          refine lv_aload_n hx hb ddX2_guardsBefore_18 rfl (lv_at hl 0 rfl) ?_
          refine get_1_1 hx hb hown ht hK hS lk39 ddX2_guardsBefore_19 ?_
          refine lv_iload_n hx hb ddX2_guardsBefore_22 rfl (lv_at hl 3 rfl) ?_
          refine ald_3 hx hb hK hS h.1 ddX2_guardsBefore_23 ?_
          replace h := h.2
          refine lv_iload_n hx hb ddX2_guardsBefore_24 rfl (lv_at hl 1 rfl) ?_
          refine lv_icmp_ge (tgt := 31) hx hb ddX2_guardsBefore_25 (by decide) (fun c5 => ?_) (fun c5 => ?_)
          · replace h := h.1 c5
            exact hJ31 _ _ _ _ _ _ _ hS (lv_sub hl [0, 1, 2, 3] rfl) h
          · replace h := h.2 c5
            obtain ⟨v7, ev7⟩ : ∃ y : Int32, y = x2 + (1 : Int32) := ⟨_, rfl⟩
            replace h := h v7 ev7
            refine lv_iinc (v := v7) (lv' := [(2, .int v7), (0, .ref (ga X 1)), (1, .int x1), (3, .int x3)]) hx hb ddX2_guardsBefore_28 hl (k := 2) rfl (by rw [ev7]; rfl) (by decide) rfl (fun ls hl => ?_)
            exact hJ31 _ _ _ _ _ _ _ hS (lv_sub hl [1, 2, 0, 3] rfl) h
  unfold wp_X2_guardsBefore at h
  refine lv_iconst (v := (0 : Int32)) hx hb ddX2_guardsBefore_0 (by decide) ?_
  refine lv_istore_n (lv' := [(2, .int (0 : Int32)), (0, .ref (ga X 1)), (1, .int x1)]) hx hb ddX2_guardsBefore_1 rfl hl (by decide) rfl (fun ls hl => ?_)
  refine lv_iconst (v := (0 : Int32)) hx hb ddX2_guardsBefore_2 (by decide) ?_
  refine lv_istore_n (lv' := [(3, .int (0 : Int32)), (2, .int (0 : Int32)), (0, .ref (ga X 1)), (1, .int x1)]) hx hb ddX2_guardsBefore_3 rfl hl (by decide) rfl (fun ls hl => ?_)
  obtain ⟨n, h⟩ := h
  exact hL4 n _ _ _ _ _ _ _ hS (lv_sub hl [2, 3, 1, 0] rfl) h

set_option maxHeartbeats 4000000 in
set_option maxRecDepth 100000 in
theorem c_X2_guardInOrder (l : Launch) (X : GX) {x1 : Int32} {σ : Mem} {K : Int32 → Mem → Prop} (h : wp_X2_guardInOrder x1 σ K) : MI l X yX2_guardInOrder cX2_guardInOrder 3 ((Option.some Jvm.ClassFile.FieldType.int)) ({ frames := 3, cells := 0, slots := 0, locals := 63 } : Room) [.ref (ga X 1), .int x1] σ K := by
  refine ent_met (QQ := fun A => va_Qi K (BW X A) A) (by decide) (Nat.le_of_ble_eq_true rfl) ?_
  intro p e s m args below meth c A ls hx hb hr hlocks hml hown ht hK hZ hA hS hl
  have hown : s.vm.findClass "GuardRoster$Roster" = some m.cls := hown
  have hl : lv_has ls 3 [(0, .ref (ga X 1)), (1, .int x1)] := hl
  have hL6 : ∀ (n : Nat) (x1 x2 : Int32) (σ : Mem) (H : Heap) (locs : List Loc) (ls : Array Slot), WS X A s.heap σ H locs → lv_has ls 3 [(0, .ref (ga X 1)), (1, .int x1), (2, .int x2)] → wlp (wpF_X2_guardInOrder_6 K) n (x1, x2, σ) → WI X K p l e ({ frames := 3, cells := 0, slots := 0, locals := 63 } : Room) s m args below meth c A H locs (F0 m 6 ls []) := by
    intro n6
    induction n6 with
    | zero => intro x1 x2 σ H locs ls hS hl h; exact h.elim
    | succ n6 ih6 =>
      intro x1 x2 σ H locs ls hS hl h
      replace h : wpS_X2_guardInOrder_6 K (wlp (wpF_X2_guardInOrder_6 K) n6) x1 x2 σ := h
      unfold wpS_X2_guardInOrder_6 at h
      refine lv_iload_n hx hb ddX2_guardInOrder_6 rfl (lv_at hl 2 rfl) ?_
      refine lv_bipush (v := (10 : Int32)) hx hb ddX2_guardInOrder_7 (by decide) ?_
      refine lv_icmp_ge (tgt := 42) hx hb ddX2_guardInOrder_9 (by decide) (fun c2 => ?_) (fun c2 => ?_)
      · replace h := h.1 c2
        refine lv_iconst (v := (-1 : Int32)) hx hb ddX2_guardInOrder_42 (by decide) ?_
        exact k_iret hx hb hr hlocks hK hS h ddX2_guardInOrder_43
      · replace h := h.2 c2
        refine lv_iload_n hx hb ddX2_guardInOrder_12 rfl (lv_at hl 2 rfl) ?_
        refine lv_aload_n hx hb ddX2_guardInOrder_13 rfl (lv_at hl 0 rfl) ?_
        refine k_VI (As := []) (rest := [.int x2]) (c_X2_guards l X h) mf_X2_guards lk375 hx hb hml hown ht hK hZ hS hA 1 1 rfl rfl rfl ⟨rfl, rfl⟩ ⟨Nat.le_of_ble_eq_true rfl, Nat.le_of_ble_eq_true rfl⟩ rfl hl.1 rfl (Nat.le_of_ble_eq_true rfl) ⟨Nat.le_of_ble_eq_true rfl, Nat.le_of_ble_eq_true rfl⟩ ddX2_guardInOrder_14 (fun r4 σ3 H locs hS h => ?_)
        refine lv_icmp_ge (tgt := 42) hx hb ddX2_guardInOrder_17 (by decide) (fun c5 => ?_) (fun c5 => ?_)
        · replace h := h.1 c5
          refine lv_iconst (v := (-1 : Int32)) hx hb ddX2_guardInOrder_42 (by decide) ?_
          exact k_iret hx hb hr hlocks hK hS h ddX2_guardInOrder_43
        · replace h := h.2 c5
          refine lv_aload_n hx hb ddX2_guardInOrder_20 rfl (lv_at hl 0 rfl) ?_
          refine lv_aload_n hx hb ddX2_guardInOrder_21 rfl (lv_at hl 0 rfl) ?_
          refine get_1_1 hx hb hown ht hK hS lk39 ddX2_guardInOrder_22 ?_
          refine lv_iload_n hx hb ddX2_guardInOrder_25 rfl (lv_at hl 2 rfl) ?_
          refine ald_3 hx hb hK hS h.1 ddX2_guardInOrder_26 ?_
          replace h := h.2
          refine k_VI (As := [.int (σ3 3 x2.toNatClampNeg)]) (rest := []) (c_X2_guardsBefore l X h) mf_X2_guardsBefore lk751 hx hb hml hown ht hK hZ hS hA 1 1 rfl rfl rfl ⟨rfl, rfl⟩ ⟨Nat.le_of_ble_eq_true rfl, Nat.le_of_ble_eq_true rfl⟩ rfl hl.1 rfl (Nat.le_of_ble_eq_true rfl) ⟨Nat.le_of_ble_eq_true rfl, Nat.le_of_ble_eq_true rfl⟩ ddX2_guardInOrder_27 (fun r7 σ6 H locs hS h => ?_)
          refine lv_iload_n hx hb ddX2_guardInOrder_30 rfl (lv_at hl 1 rfl) ?_
          refine lv_icmp_ne (tgt := 36) hx hb ddX2_guardInOrder_31 (by decide) (fun c8 => ?_) (fun c8 => ?_)
          · replace h := h.1 c8
            obtain ⟨v9, ev9⟩ : ∃ y : Int32, y = x2 + (1 : Int32) := ⟨_, rfl⟩
            replace h := h v9 ev9
            refine lv_iinc (v := v9) (lv' := [(2, .int v9), (0, .ref (ga X 1)), (1, .int x1)]) hx hb ddX2_guardInOrder_36 hl (k := 2) rfl (by rw [ev9]; rfl) (by decide) rfl (fun ls hl => ?_)
            refine lv_goto (tgt := 6) hx hb ddX2_guardInOrder_39 (by decide) ?_
            exact ih6 _ _ _ _ _ _ hS (lv_sub hl [1, 2, 0] rfl) h
          · replace h := h.2 c8
            refine lv_iload_n hx hb ddX2_guardInOrder_34 rfl (lv_at hl 2 rfl) ?_
            exact k_iret hx hb hr hlocks hK hS h ddX2_guardInOrder_35
  unfold wp_X2_guardInOrder at h
  refine lv_aload_n hx hb ddX2_guardInOrder_0 rfl (lv_at hl 0 rfl) ?_
  refine k_VV (As := []) (rest := []) (c_X2_computeOrderKeys l X h) mf_X2_computeOrderKeys lk657 hx hb hml hown ht hK hZ hS hA 1 1 rfl rfl rfl ⟨rfl, rfl⟩ ⟨Nat.le_of_ble_eq_true rfl, Nat.le_of_ble_eq_true rfl⟩ rfl hl.1 rfl (Nat.le_of_ble_eq_true rfl) ⟨Nat.le_of_ble_eq_true rfl, Nat.le_of_ble_eq_true rfl⟩ ddX2_guardInOrder_1 (fun σ1 H locs hS h => ?_)
  refine lv_iconst (v := (0 : Int32)) hx hb ddX2_guardInOrder_4 (by decide) ?_
  refine lv_istore_n (lv' := [(2, .int (0 : Int32)), (0, .ref (ga X 1)), (1, .int x1)]) hx hb ddX2_guardInOrder_5 rfl hl (by decide) rfl (fun ls hl => ?_)
  obtain ⟨n, h⟩ := h
  exact hL6 n _ _ _ _ _ _ hS (lv_sub hl [1, 2, 0] rfl) h

set_option maxHeartbeats 4000000 in
set_option maxRecDepth 100000 in
theorem c_X2_mostNeedingGate (l : Launch) (X : GX) {x1 : Int32} {σ : Mem} {K : Int32 → Mem → Prop} (h : wp_X2_mostNeedingGate x1 σ K) : MI l X yX2_mostNeedingGate cX2_mostNeedingGate 5 ((Option.some Jvm.ClassFile.FieldType.int)) ({ frames := 2, cells := 0, slots := 0, locals := 42 } : Room) [.ref (ga X 1), .int x1] σ K := by
  refine ent_met (QQ := fun A => va_Qi K (BW X A) A) (by decide) (Nat.le_of_ble_eq_true rfl) ?_
  intro p e s m args below meth c A ls hx hb hr hlocks hml hown ht hK hZ hA hS hl
  have hown : s.vm.findClass "GuardRoster$Roster" = some m.cls := hown
  have hl : lv_has ls 5 [(0, .ref (ga X 1)), (1, .int x1)] := hl
  have hL4 : ∀ (n : Nat) (x1 x2 x3 : Int32) (σ : Mem) (H : Heap) (locs : List Loc) (ls : Array Slot), WS X A s.heap σ H locs → lv_has ls 5 [(0, .ref (ga X 1)), (1, .int x1), (2, .int x2), (3, .int x3)] → wlp (wpF_X2_mostNeedingGate_4 K) n (x1, x2, x3, σ) → WI X K p l e ({ frames := 2, cells := 0, slots := 0, locals := 42 } : Room) s m args below meth c A H locs (F0 m 4 ls []) := by
    intro n4
    induction n4 with
    | zero => intro x1 x2 x3 σ H locs ls hS hl h; exact h.elim
    | succ n4 ih4 =>
      have hJ52 : ∀ (x1 x2 x3 : Int32) (σ : Mem) (H : Heap) (locs : List Loc) (ls : Array Slot), WS X A s.heap σ H locs → lv_has ls 5 [(0, .ref (ga X 1)), (1, .int x1), (2, .int x2), (3, .int x3)] → wpJ_X2_mostNeedingGate_52 K (wlp (wpF_X2_mostNeedingGate_4 K) n4) x1 x2 x3 σ → WI X K p l e ({ frames := 2, cells := 0, slots := 0, locals := 42 } : Room) s m args below meth c A H locs (F0 m 52 ls []) := by
        intro x1 x2 x3 σ H locs ls hS hl h
        unfold wpJ_X2_mostNeedingGate_52 at h
        obtain ⟨v6, ev6⟩ : ∃ y : Int32, y = x3 + (1 : Int32) := ⟨_, rfl⟩
        replace h := h v6 ev6
        refine lv_iinc (v := v6) (lv' := [(3, .int v6), (0, .ref (ga X 1)), (1, .int x1), (2, .int x2)]) hx hb ddX2_mostNeedingGate_52 hl (k := 3) rfl (by rw [ev6]; rfl) (by decide) rfl (fun ls hl => ?_)
        refine lv_goto (tgt := 4) hx hb ddX2_mostNeedingGate_55 (by decide) ?_
        exact ih4 _ _ _ _ _ _ _ hS (lv_sub hl [1, 2, 3, 0] rfl) h
      have hJ50 : ∀ (x1 x3 : Int32) (σ : Mem) (H : Heap) (locs : List Loc) (ls : Array Slot), WS X A s.heap σ H locs → lv_has ls 5 [(0, .ref (ga X 1)), (1, .int x1), (3, .int x3)] → wpJ_X2_mostNeedingGate_50 K (wlp (wpF_X2_mostNeedingGate_4 K) n4) x1 x3 σ → WI X K p l e ({ frames := 2, cells := 0, slots := 0, locals := 42 } : Room) s m args below meth c A H locs (F0 m 50 ls []) := by
        intro x1 x3 σ H locs ls hS hl h
        unfold wpJ_X2_mostNeedingGate_50 at h
        refine lv_iload_n hx hb ddX2_mostNeedingGate_50 rfl (lv_at hl 2 rfl) ?_
        refine lv_istore_n (lv' := [(2, .int x3), (0, .ref (ga X 1)), (1, .int x1), (3, .int x3)]) hx hb ddX2_mostNeedingGate_51 rfl hl (by decide) rfl (fun ls hl => ?_)
        exact hJ52 _ _ _ _ _ _ _ hS (lv_sub hl [1, 2, 0, 3] rfl) h
      have hJ25 : ∀ (x1 x2 x3 y0 : Int32) (σ : Mem) (H : Heap) (locs : List Loc) (ls : Array Slot), WS X A s.heap σ H locs → lv_has ls 5 [(0, .ref (ga X 1)), (1, .int x1), (2, .int x2), (3, .int x3)] → wpJ_X2_mostNeedingGate_25 K (wlp (wpF_X2_mostNeedingGate_4 K) n4) x1 x2 x3 y0 σ → WI X K p l e ({ frames := 2, cells := 0, slots := 0, locals := 42 } : Room) s m args below meth c A H locs (F0 m 25 ls [.int y0]) := by
        intro x1 x2 x3 y0 σ H locs ls hS hl h
        unfold wpJ_X2_mostNeedingGate_25 at h
        refine lv_istore (lv' := [(4, .int y0), (0, .ref (ga X 1)), (1, .int x1), (2, .int x2), (3, .int x3)]) hx hb ddX2_mostNeedingGate_25 hl (by decide) rfl (fun ls hl => ?_)
        refine lv_iload hx hb ddX2_mostNeedingGate_27 (lv_at hl 0 rfl) ?_
        refine lv_if_eq (tgt := 52) hx hb ddX2_mostNeedingGate_29 (by decide) (fun c5 => ?_) (fun c5 => ?_)
        · replace h := h.1 c5
          exact hJ52 _ _ _ _ _ _ _ hS (lv_sub hl [1, 2, 3, 4] rfl) h
        · replace h := h.2 c5
          refine lv_iload_n hx hb ddX2_mostNeedingGate_32 rfl (lv_at hl 3 rfl) ?_
          refine lv_iconst (v := (-1 : Int32)) hx hb ddX2_mostNeedingGate_33 (by decide) ?_
          refine lv_icmp_eq (tgt := 50) hx hb ddX2_mostNeedingGate_34 (by decide) (fun c7 => ?_) (fun c7 => ?_)
          · replace h := h.1 c7
            exact hJ50 _ _ _ _ _ _ hS (lv_sub hl [1, 2, 4] rfl) h
          · replace h := h.2 c7
            refine lv_aload_n hx hb ddX2_mostNeedingGate_37 rfl (lv_at hl 1 rfl) ?_
            refine lv_iload_n hx hb ddX2_mostNeedingGate_38 rfl (lv_at hl 4 rfl) ?_
            refine k_VI (As := [.int x3]) (rest := []) (c_X2_rankNeededAt l X h) mf_X2_rankNeededAt lk333 hx hb hml hown ht hK hZ hS hA 1 1 rfl rfl rfl ⟨rfl, rfl⟩ ⟨Nat.le_of_ble_eq_true rfl, Nat.le_of_ble_eq_true rfl⟩ rfl hl.1 rfl (Nat.le_of_ble_eq_true rfl) ⟨Nat.le_of_ble_eq_true rfl, Nat.le_of_ble_eq_true rfl⟩ ddX2_mostNeedingGate_39 (fun r9 σ8 H locs hS h => ?_)
            refine lv_aload_n hx hb ddX2_mostNeedingGate_42 rfl (lv_at hl 1 rfl) ?_
            refine lv_iload_n hx hb ddX2_mostNeedingGate_43 rfl (lv_at hl 3 rfl) ?_
            refine k_VI (As := [.int x2]) (rest := [.int r9]) (c_X2_rankNeededAt l X h) mf_X2_rankNeededAt lk333 hx hb hml hown ht hK hZ hS hA 1 1 rfl rfl rfl ⟨rfl, rfl⟩ ⟨Nat.le_of_ble_eq_true rfl, Nat.le_of_ble_eq_true rfl⟩ rfl hl.1 rfl (Nat.le_of_ble_eq_true rfl) ⟨Nat.le_of_ble_eq_true rfl, Nat.le_of_ble_eq_true rfl⟩ ddX2_mostNeedingGate_44 (fun r11 σ10 H locs hS h => ?_)
            refine lv_icmp_le (tgt := 52) hx hb ddX2_mostNeedingGate_47 (by decide) (fun c12 => ?_) (fun c12 => ?_)
            · replace h := h.1 c12
              exact hJ52 _ _ _ _ _ _ _ hS (lv_sub hl [1, 2, 3, 4] rfl) h
            · replace h := h.2 c12
              exact hJ50 _ _ _ _ _ _ hS (lv_sub hl [1, 2, 4] rfl) h
      intro x1 x2 x3 σ H locs ls hS hl h
      replace h : wpS_X2_mostNeedingGate_4 K (wlp (wpF_X2_mostNeedingGate_4 K) n4) x1 x2 x3 σ := h
      unfold wpS_X2_mostNeedingGate_4 at h
      refine lv_iload_n hx hb ddX2_mostNeedingGate_4 rfl (lv_at hl 3 rfl) ?_
      refine lv_aload_n hx hb ddX2_mostNeedingGate_5 rfl (lv_at hl 0 rfl) ?_
      refine k_VI (As := []) (rest := [.int x3]) (c_X2_gates l X h) mf_X2_gates lk173 hx hb hml hown ht hK hZ hS hA 1 1 rfl rfl rfl ⟨rfl, rfl⟩ ⟨Nat.le_of_ble_eq_true rfl, Nat.le_of_ble_eq_true rfl⟩ rfl hl.1 rfl (Nat.le_of_ble_eq_true rfl) ⟨Nat.le_of_ble_eq_true rfl, Nat.le_of_ble_eq_true rfl⟩ ddX2_mostNeedingGate_6 (fun r2 σ1 H locs hS h => ?_)
      refine lv_icmp_ge (tgt := 58) hx hb ddX2_mostNeedingGate_9 (by decide) (fun c3 => ?_) (fun c3 => ?_)
      · replace h := h.1 c3
        refine lv_iload_n hx hb ddX2_mostNeedingGate_58 rfl (lv_at hl 2 rfl) ?_
        exact k_iret hx hb hr hlocks hK hS h ddX2_mostNeedingGate_59
      · replace h := h.2 c3
        refine lv_iload_n hx hb ddX2_mostNeedingGate_12 rfl (lv_at hl 1 rfl) ?_
        refine lv_iload_n hx hb ddX2_mostNeedingGate_13 rfl (lv_at hl 3 rfl) ?_
        refine lv_ishr hx hb ddX2_mostNeedingGate_14 ?_
        refine lv_iconst (v := (1 : Int32)) hx hb ddX2_mostNeedingGate_15 (by decide) ?_
        refine lv_iand hx hb ddX2_mostNeedingGate_16 ?_
        refine lv_if_ne (tgt := 24) hx hb ddX2_mostNeedingGate_17 (by decide) (fun c4 => ?_) (fun c4 => ?_)
        · replace h := h.1 c4
          refine lv_iconst (v := (0 : Int32)) hx hb ddX2_mostNeedingGate_24 (by decide) ?_
          exact hJ25 _ _ _ _ _ _ _ _ hS (lv_sub hl [0, 1, 2, 3] rfl) h
        · replace h := h.2 c4
          refine lv_iconst (v := (1 : Int32)) hx hb ddX2_mostNeedingGate_20 (by decide) ?_
          refine lv_goto (tgt := 25) hx hb ddX2_mostNeedingGate_21 (by decide) ?_
          exact hJ25 _ _ _ _ _ _ _ _ hS (lv_sub hl [0, 1, 2, 3] rfl) h
  unfold wp_X2_mostNeedingGate at h
  refine lv_iconst (v := (-1 : Int32)) hx hb ddX2_mostNeedingGate_0 (by decide) ?_
  refine lv_istore_n (lv' := [(2, .int (-1 : Int32)), (0, .ref (ga X 1)), (1, .int x1)]) hx hb ddX2_mostNeedingGate_1 rfl hl (by decide) rfl (fun ls hl => ?_)
  refine lv_iconst (v := (0 : Int32)) hx hb ddX2_mostNeedingGate_2 (by decide) ?_
  refine lv_istore_n (lv' := [(3, .int (0 : Int32)), (2, .int (-1 : Int32)), (0, .ref (ga X 1)), (1, .int x1)]) hx hb ddX2_mostNeedingGate_3 rfl hl (by decide) rfl (fun ls hl => ?_)
  obtain ⟨n, h⟩ := h
  exact hL4 n _ _ _ _ _ _ _ hS (lv_sub hl [2, 3, 1, 0] rfl) h

set_option maxHeartbeats 4000000 in
set_option maxRecDepth 100000 in
theorem c_X2_firstGuardFor (l : Launch) (X : GX) {x1 x2 : Int32} {σ : Mem} {K : Int32 → Mem → Prop} (h : wp_X2_firstGuardFor x1 x2 σ K) : MI l X yX2_firstGuardFor cX2_firstGuardFor 6 ((Option.some Jvm.ClassFile.FieldType.int)) ({ frames := 3, cells := 0, slots := 0, locals := 66 } : Room) [.ref (ga X 1), .int x1, .int x2] σ K := by
  refine ent_met (QQ := fun A => va_Qi K (BW X A) A) (by decide) (Nat.le_of_ble_eq_true rfl) ?_
  intro p e s m args below meth c A ls hx hb hr hlocks hml hown ht hK hZ hA hS hl
  have hown : s.vm.findClass "GuardRoster$Roster" = some m.cls := hown
  have hl : lv_has ls 6 [(0, .ref (ga X 1)), (1, .int x1), (2, .int x2)] := hl
  have hL5 : ∀ (n : Nat) (x1 x2 x3 x4 : Int32) (σ : Mem) (H : Heap) (locs : List Loc) (ls : Array Slot), WS X A s.heap σ H locs → lv_has ls 6 [(0, .ref (ga X 1)), (1, .int x1), (2, .int x2), (3, .int x3), (4, .int x4)] → wlp (wpF_X2_firstGuardFor_5 K) n (x1, x2, x3, x4, σ) → WI X K p l e ({ frames := 3, cells := 0, slots := 0, locals := 66 } : Room) s m args below meth c A H locs (F0 m 5 ls []) := by
    intro n5
    induction n5 with
    | zero => intro x1 x2 x3 x4 σ H locs ls hS hl h; exact h.elim
    | succ n5 ih5 =>
      have hJ68 : ∀ (x1 x2 x3 x4 : Int32) (σ : Mem) (H : Heap) (locs : List Loc) (ls : Array Slot), WS X A s.heap σ H locs → lv_has ls 6 [(0, .ref (ga X 1)), (1, .int x1), (2, .int x2), (3, .int x3), (4, .int x4)] → wpJ_X2_firstGuardFor_68 K (wlp (wpF_X2_firstGuardFor_5 K) n5) x1 x2 x3 x4 σ → WI X K p l e ({ frames := 3, cells := 0, slots := 0, locals := 66 } : Room) s m args below meth c A H locs (F0 m 68 ls []) := by
        intro x1 x2 x3 x4 σ H locs ls hS hl h
        unfold wpJ_X2_firstGuardFor_68 at h
        obtain ⟨v7, ev7⟩ : ∃ y : Int32, y = x4 + (1 : Int32) := ⟨_, rfl⟩
        replace h := h v7 ev7
        refine lv_iinc (v := v7) (lv' := [(4, .int v7), (0, .ref (ga X 1)), (1, .int x1), (2, .int x2), (3, .int x3)]) hx hb ddX2_firstGuardFor_68 hl (k := 4) rfl (by rw [ev7]; rfl) (by decide) rfl (fun ls hl => ?_)
        refine lv_goto (tgt := 5) hx hb ddX2_firstGuardFor_71 (by decide) ?_
        exact ih5 _ _ _ _ _ _ _ _ hS (lv_sub hl [1, 2, 3, 4, 0] rfl) h
      have hJ47 : ∀ (x1 x2 x3 x4 y0 : Int32) (σ : Mem) (H : Heap) (locs : List Loc) (ls : Array Slot), WS X A s.heap σ H locs → lv_has ls 6 [(0, .ref (ga X 1)), (1, .int x1), (2, .int x2), (3, .int x3), (4, .int x4)] → wpJ_X2_firstGuardFor_47 K (wlp (wpF_X2_firstGuardFor_5 K) n5) x1 x2 x3 x4 y0 σ → WI X K p l e ({ frames := 3, cells := 0, slots := 0, locals := 66 } : Room) s m args below meth c A H locs (F0 m 47 ls [.int y0]) := by
        intro x1 x2 x3 x4 y0 σ H locs ls hS hl h
        unfold wpJ_X2_firstGuardFor_47 at h
        refine lv_istore (lv' := [(5, .int y0), (0, .ref (ga X 1)), (1, .int x1), (2, .int x2), (3, .int x3), (4, .int x4)]) hx hb ddX2_firstGuardFor_47 hl (by decide) rfl (fun ls hl => ?_)
        refine lv_iload hx hb ddX2_firstGuardFor_49 (lv_at hl 0 rfl) ?_
        refine lv_if_eq (tgt := 68) hx hb ddX2_firstGuardFor_51 (by decide) (fun c6 => ?_) (fun c6 => ?_)
        · replace h := h.1 c6
          exact hJ68 _ _ _ _ _ _ _ _ hS (lv_sub hl [1, 2, 3, 4, 5] rfl) h
        · replace h := h.2 c6
          refine lv_aload_n hx hb ddX2_firstGuardFor_54 rfl (lv_at hl 1 rfl) ?_
          refine lv_iload_n hx hb ddX2_firstGuardFor_55 rfl (lv_at hl 2 rfl) ?_
          refine lv_iload_n hx hb ddX2_firstGuardFor_56 rfl (lv_at hl 3 rfl) ?_
          refine lv_iload hx hb ddX2_firstGuardFor_57 (lv_at hl 5 rfl) ?_
          refine k_VI (As := [.int x1, .int x2, .int x4]) (rest := []) (c_X2_reasonAgainst l X h) mf_X2_reasonAgainst lk670 hx hb hml hown ht hK hZ hS hA 1 1 rfl rfl rfl ⟨rfl, rfl⟩ ⟨Nat.le_of_ble_eq_true rfl, Nat.le_of_ble_eq_true rfl⟩ rfl hl.1 rfl (Nat.le_of_ble_eq_true rfl) ⟨Nat.le_of_ble_eq_true rfl, Nat.le_of_ble_eq_true rfl⟩ ddX2_firstGuardFor_59 (fun r9 σ8 H locs hS h => ?_)
          refine lv_if_ne (tgt := 68) hx hb ddX2_firstGuardFor_62 (by decide) (fun c10 => ?_) (fun c10 => ?_)
          · replace h := h.1 c10
            exact hJ68 _ _ _ _ _ _ _ _ hS (lv_sub hl [1, 2, 3, 4, 5] rfl) h
          · replace h := h.2 c10
            refine lv_iload hx hb ddX2_firstGuardFor_65 (lv_at hl 5 rfl) ?_
            refine lv_istore_n (lv' := [(3, .int x4), (5, .int y0), (0, .ref (ga X 1)), (1, .int x1), (2, .int x2), (4, .int x4)]) hx hb ddX2_firstGuardFor_67 rfl hl (by decide) rfl (fun ls hl => ?_)
            exact hJ68 _ _ _ _ _ _ _ _ hS (lv_sub hl [2, 3, 4, 0, 5] rfl) h
      have hJ42 : ∀ (x1 x2 x3 x4 : Int32) (σ : Mem) (H : Heap) (locs : List Loc) (ls : Array Slot), WS X A s.heap σ H locs → lv_has ls 6 [(0, .ref (ga X 1)), (1, .int x1), (2, .int x2), (3, .int x3), (4, .int x4)] → wpJ_X2_firstGuardFor_42 K (wlp (wpF_X2_firstGuardFor_5 K) n5) x1 x2 x3 x4 σ → WI X K p l e ({ frames := 3, cells := 0, slots := 0, locals := 66 } : Room) s m args below meth c A H locs (F0 m 42 ls []) := by
        intro x1 x2 x3 x4 σ H locs ls hS hl h
        unfold wpJ_X2_firstGuardFor_42 at h
        refine lv_iconst (v := (1 : Int32)) hx hb ddX2_firstGuardFor_42 (by decide) ?_
        refine lv_goto (tgt := 47) hx hb ddX2_firstGuardFor_43 (by decide) ?_
        exact hJ47 _ _ _ _ _ _ _ _ _ hS (lv_sub hl [0, 1, 2, 3, 4] rfl) h
      intro x1 x2 x3 x4 σ H locs ls hS hl h
      replace h : wpS_X2_firstGuardFor_5 K (wlp (wpF_X2_firstGuardFor_5 K) n5) x1 x2 x3 x4 σ := h
      unfold wpS_X2_firstGuardFor_5 at h
      refine lv_iload hx hb ddX2_firstGuardFor_5 (lv_at hl 4 rfl) ?_
      refine lv_bipush (v := (10 : Int32)) hx hb ddX2_firstGuardFor_7 (by decide) ?_
      refine lv_icmp_ge (tgt := 74) hx hb ddX2_firstGuardFor_9 (by decide) (fun c1 => ?_) (fun c1 => ?_)
      · replace h := h.1 c1
        refine lv_iload_n hx hb ddX2_firstGuardFor_74 rfl (lv_at hl 3 rfl) ?_
        exact k_iret hx hb hr hlocks hK hS h ddX2_firstGuardFor_75
      · replace h := h.2 c1
        refine lv_iload hx hb ddX2_firstGuardFor_12 (lv_at hl 4 rfl) ?_
        refine lv_aload_n hx hb ddX2_firstGuardFor_14 rfl (lv_at hl 0 rfl) ?_
        refine k_VI (As := []) (rest := [.int x4]) (c_X2_guards l X h) mf_X2_guards lk375 hx hb hml hown ht hK hZ hS hA 1 1 rfl rfl rfl ⟨rfl, rfl⟩ ⟨Nat.le_of_ble_eq_true rfl, Nat.le_of_ble_eq_true rfl⟩ rfl hl.1 rfl (Nat.le_of_ble_eq_true rfl) ⟨Nat.le_of_ble_eq_true rfl, Nat.le_of_ble_eq_true rfl⟩ ddX2_firstGuardFor_15 (fun r3 σ2 H locs hS h => ?_)
        refine lv_icmp_ge (tgt := 74) hx hb ddX2_firstGuardFor_18 (by decide) (fun c4 => ?_) (fun c4 => ?_)
        · replace h := h.1 c4
          refine lv_iload_n hx hb ddX2_firstGuardFor_74 rfl (lv_at hl 3 rfl) ?_
          exact k_iret hx hb hr hlocks hK hS h ddX2_firstGuardFor_75
        · replace h := h.2 c4
          refine lv_iload_n hx hb ddX2_firstGuardFor_21 rfl (lv_at hl 3 rfl) ?_
          refine lv_iconst (v := (-1 : Int32)) hx hb ddX2_firstGuardFor_22 (by decide) ?_
          refine lv_icmp_eq (tgt := 42) hx hb ddX2_firstGuardFor_23 (by decide) (fun c5 => ?_) (fun c5 => ?_)
          · replace h := h.1 c5
            exact hJ42 _ _ _ _ _ _ _ _ hS (lv_sub hl [0, 1, 2, 3, 4] rfl) h
          · replace h := h.2 c5
            refine lv_aload_n hx hb ddX2_firstGuardFor_26 rfl (lv_at hl 0 rfl) ?_
            refine get_1_1 hx hb hown ht hK hS lk39 ddX2_firstGuardFor_27 ?_
            refine lv_iload hx hb ddX2_firstGuardFor_30 (lv_at hl 4 rfl) ?_
            refine ald_3 hx hb hK hS h.1 ddX2_firstGuardFor_32 ?_
            replace h := h.2
            refine lv_aload_n hx hb ddX2_firstGuardFor_33 rfl (lv_at hl 0 rfl) ?_
            refine get_1_1 hx hb hown ht hK hS lk39 ddX2_firstGuardFor_34 ?_
            refine lv_iload_n hx hb ddX2_firstGuardFor_37 rfl (lv_at hl 3 rfl) ?_
            refine ald_3 hx hb hK hS h.1 ddX2_firstGuardFor_38 ?_
            replace h := h.2
            refine lv_icmp_ge (tgt := 46) hx hb ddX2_firstGuardFor_39 (by decide) (fun c11 => ?_) (fun c11 => ?_)
            · replace h := h.1 c11
              refine lv_iconst (v := (0 : Int32)) hx hb ddX2_firstGuardFor_46 (by decide) ?_
              exact hJ47 _ _ _ _ _ _ _ _ _ hS (lv_sub hl [0, 1, 2, 3, 4] rfl) h
            · replace h := h.2 c11
              exact hJ42 _ _ _ _ _ _ _ _ hS (lv_sub hl [0, 1, 2, 3, 4] rfl) h
  unfold wp_X2_firstGuardFor at h
  refine lv_iconst (v := (-1 : Int32)) hx hb ddX2_firstGuardFor_0 (by decide) ?_
  refine lv_istore_n (lv' := [(3, .int (-1 : Int32)), (0, .ref (ga X 1)), (1, .int x1), (2, .int x2)]) hx hb ddX2_firstGuardFor_1 rfl hl (by decide) rfl (fun ls hl => ?_)
  refine lv_iconst (v := (0 : Int32)) hx hb ddX2_firstGuardFor_2 (by decide) ?_
  refine lv_istore (lv' := [(4, .int (0 : Int32)), (3, .int (-1 : Int32)), (0, .ref (ga X 1)), (1, .int x1), (2, .int x2)]) hx hb ddX2_firstGuardFor_3 hl (by decide) rfl (fun ls hl => ?_)
  obtain ⟨n, h⟩ := h
  exact hL5 n _ _ _ _ _ _ _ _ hS (lv_sub hl [2, 3, 4, 1, 0] rfl) h

set_option maxHeartbeats 4000000 in
set_option maxRecDepth 100000 in
theorem c_X2_fill (l : Launch) (X : GX) {x1 : Int32} {σ : Mem} {K : Int32 → Mem → Prop} (h : wp_X2_fill x1 σ K) : MI l X yX2_fill cX2_fill 7 ((Option.some Jvm.ClassFile.FieldType.int)) ({ frames := 4, cells := 0, slots := 0, locals := 91 } : Room) [.ref (ga X 1), .int x1] σ K := by
  refine ent_met (QQ := fun A => va_Qi K (BW X A) A) (by decide) (Nat.le_of_ble_eq_true rfl) ?_
  intro p e s m args below meth c A ls hx hb hr hlocks hml hown ht hK hZ hA hS hl
  have hown : s.vm.findClass "GuardRoster$Roster" = some m.cls := hown
  have hl : lv_has ls 7 [(0, .ref (ga X 1)), (1, .int x1)] := hl
  have hL11 : ∀ (n : Nat) (x1 x2 x3 x4 : Int32) (σ : Mem) (H : Heap) (locs : List Loc) (ls : Array Slot), WS X A s.heap σ H locs → lv_has ls 7 [(0, .ref (ga X 1)), (1, .int x1), (2, .int x2), (3, .int x3), (4, .int x4)] → wlp (wpF_X2_fill_11 K) n (x1, x2, x3, x4, σ) → WI X K p l e ({ frames := 4, cells := 0, slots := 0, locals := 91 } : Room) s m args below meth c A H locs (F0 m 11 ls []) := by
    intro n11
    induction n11 with
    | zero => intro x1 x2 x3 x4 σ H locs ls hS hl h; exact h.elim
    | succ n11 ih11 =>
      have hJ61 : ∀ (x1 x2 x3 x4 : Int32) (σ : Mem) (H : Heap) (locs : List Loc) (ls : Array Slot), WS X A s.heap σ H locs → lv_has ls 7 [(0, .ref (ga X 1)), (1, .int x1), (2, .int x2), (3, .int x3), (4, .int x4)] → wpJ_X2_fill_61 K (wlp (wpF_X2_fill_11 K) n11) x1 x2 x3 x4 σ → WI X K p l e ({ frames := 4, cells := 0, slots := 0, locals := 91 } : Room) s m args below meth c A H locs (F0 m 61 ls []) := by
        intro x1 x2 x3 x4 σ H locs ls hS hl h
        unfold wpJ_X2_fill_61 at h
        obtain ⟨v11, ev11⟩ : ∃ y : Int32, y = x4 + (1 : Int32) := ⟨_, rfl⟩
        replace h := h v11 ev11
        refine lv_iinc (v := v11) (lv' := [(4, .int v11), (0, .ref (ga X 1)), (1, .int x1), (2, .int x2), (3, .int x3)]) hx hb ddX2_fill_61 hl (k := 4) rfl (by rw [ev11]; rfl) (by decide) rfl (fun ls hl => ?_)
        refine lv_goto (tgt := 11) hx hb ddX2_fill_64 (by decide) ?_
        exact ih11 _ _ _ _ _ _ _ _ hS (lv_sub hl [1, 2, 3, 4, 0] rfl) h
      intro x1 x2 x3 x4 σ H locs ls hS hl h
      replace h : wpS_X2_fill_11 K (wlp (wpF_X2_fill_11 K) n11) x1 x2 x3 x4 σ := h
      unfold wpS_X2_fill_11 at h
      refine lv_iload hx hb ddX2_fill_11 (lv_at hl 4 rfl) ?_
      refine lv_aload_n hx hb ddX2_fill_13 rfl (lv_at hl 0 rfl) ?_
      refine k_VI (As := []) (rest := [.int x4]) (c_X2_gates l X h) mf_X2_gates lk173 hx hb hml hown ht hK hZ hS hA 1 1 rfl rfl rfl ⟨rfl, rfl⟩ ⟨Nat.le_of_ble_eq_true rfl, Nat.le_of_ble_eq_true rfl⟩ rfl hl.1 rfl (Nat.le_of_ble_eq_true rfl) ⟨Nat.le_of_ble_eq_true rfl, Nat.le_of_ble_eq_true rfl⟩ ddX2_fill_14 (fun r3 σ2 H locs hS h => ?_)
      refine lv_icmp_ge (tgt := 67) hx hb ddX2_fill_17 (by decide) (fun c4 => ?_) (fun c4 => ?_)
      · replace h := h.1 c4
        refine lv_iload_n hx hb ddX2_fill_67 rfl (lv_at hl 2 rfl) ?_
        exact k_iret hx hb hr hlocks hK hS h ddX2_fill_68
      · replace h := h.2 c4
        refine lv_aload_n hx hb ddX2_fill_20 rfl (lv_at hl 0 rfl) ?_
        refine lv_iload_n hx hb ddX2_fill_21 rfl (lv_at hl 3 rfl) ?_
        refine k_VI (As := [.int x3]) (rest := []) (c_X2_mostNeedingGate l X h) mf_X2_mostNeedingGate lk662 hx hb hml hown ht hK hZ hS hA 1 1 rfl rfl rfl ⟨rfl, rfl⟩ ⟨Nat.le_of_ble_eq_true rfl, Nat.le_of_ble_eq_true rfl⟩ rfl hl.1 rfl (Nat.le_of_ble_eq_true rfl) ⟨Nat.le_of_ble_eq_true rfl, Nat.le_of_ble_eq_true rfl⟩ ddX2_fill_22 (fun r6 σ5 H locs hS h => ?_)
        refine lv_istore (lv' := [(5, .int r6), (0, .ref (ga X 1)), (1, .int x1), (2, .int x2), (3, .int x3), (4, .int x4)]) hx hb ddX2_fill_25 hl (by decide) rfl (fun ls hl => ?_)
        refine lv_iload_n hx hb ddX2_fill_27 rfl (lv_at hl 4 rfl) ?_
        refine lv_iconst (v := (1 : Int32)) hx hb ddX2_fill_28 (by decide) ?_
        refine lv_iload hx hb ddX2_fill_29 (lv_at hl 0 rfl) ?_
        refine lv_ishl hx hb ddX2_fill_31 ?_
        refine lv_ior hx hb ddX2_fill_32 ?_
        refine lv_topi (fun v7 ev7 => ?_)
        replace h := h v7 ev7
        refine lv_istore_n (lv' := [(3, .int v7), (5, .int r6), (0, .ref (ga X 1)), (1, .int x1), (2, .int x2), (4, .int x4)]) hx hb ddX2_fill_33 rfl hl (by decide) rfl (fun ls hl => ?_)
        refine lv_aload_n hx hb ddX2_fill_34 rfl (lv_at hl 2 rfl) ?_
        refine lv_iload hx hb ddX2_fill_35 (lv_at hl 1 rfl) ?_
        refine lv_iload_n hx hb ddX2_fill_37 rfl (lv_at hl 3 rfl) ?_
        refine k_VI (As := [.int r6, .int x1]) (rest := []) (c_X2_firstGuardFor l X h) mf_X2_firstGuardFor lk666 hx hb hml hown ht hK hZ hS hA 1 1 rfl rfl rfl ⟨rfl, rfl⟩ ⟨Nat.le_of_ble_eq_true rfl, Nat.le_of_ble_eq_true rfl⟩ rfl hl.1 rfl (Nat.le_of_ble_eq_true rfl) ⟨Nat.le_of_ble_eq_true rfl, Nat.le_of_ble_eq_true rfl⟩ ddX2_fill_38 (fun r9 σ8 H locs hS h => ?_)
        refine lv_istore (lv' := [(6, .int r9), (3, .int v7), (5, .int r6), (0, .ref (ga X 1)), (1, .int x1), (2, .int x2), (4, .int x4)]) hx hb ddX2_fill_41 hl (by decide) rfl (fun ls hl => ?_)
        refine lv_iload hx hb ddX2_fill_43 (lv_at hl 0 rfl) ?_
        refine lv_iconst (v := (-1 : Int32)) hx hb ddX2_fill_45 (by decide) ?_
        refine lv_icmp_eq (tgt := 61) hx hb ddX2_fill_46 (by decide) (fun c10 => ?_) (fun c10 => ?_)
        · replace h := h.1 c10
          exact hJ61 _ _ _ _ _ _ _ _ hS (lv_sub hl [3, 4, 5, 1, 6] rfl) h
        · replace h := h.2 c10
          refine lv_aload_n hx hb ddX2_fill_49 rfl (lv_at hl 3 rfl) ?_
          refine lv_iload hx hb ddX2_fill_50 (lv_at hl 2 rfl) ?_
          refine lv_iload_n hx hb ddX2_fill_52 rfl (lv_at hl 4 rfl) ?_
          refine lv_iload hx hb ddX2_fill_53 (lv_at hl 0 rfl) ?_
          refine k_VV (As := [.int r6, .int x1, .int r9]) (rest := []) (c_X2_setDuty l X h) mf_X2_setDuty lk671 hx hb hml hown ht hK hZ hS hA 1 1 rfl rfl rfl ⟨rfl, rfl⟩ ⟨Nat.le_of_ble_eq_true rfl, Nat.le_of_ble_eq_true rfl⟩ rfl hl.1 rfl (Nat.le_of_ble_eq_true rfl) ⟨Nat.le_of_ble_eq_true rfl, Nat.le_of_ble_eq_true rfl⟩ ddX2_fill_55 (fun σ12 H locs hS h => ?_)
          obtain ⟨v13, ev13⟩ : ∃ y : Int32, y = x2 + (1 : Int32) := ⟨_, rfl⟩
          replace h := h v13 ev13
          refine lv_iinc (v := v13) (lv' := [(2, .int v13), (6, .int r9), (3, .int v7), (5, .int r6), (0, .ref (ga X 1)), (1, .int x1), (4, .int x4)]) hx hb ddX2_fill_58 hl (k := 5) rfl (by rw [ev13]; rfl) (by decide) rfl (fun ls hl => ?_)
          exact hJ61 _ _ _ _ _ _ _ _ hS (lv_sub hl [4, 5, 0, 2, 6] rfl) h
  unfold wp_X2_fill at h
  refine lv_aload_n hx hb ddX2_fill_0 rfl (lv_at hl 0 rfl) ?_
  refine k_VV (As := []) (rest := []) (c_X2_computeOrderKeys l X h) mf_X2_computeOrderKeys lk657 hx hb hml hown ht hK hZ hS hA 1 1 rfl rfl rfl ⟨rfl, rfl⟩ ⟨Nat.le_of_ble_eq_true rfl, Nat.le_of_ble_eq_true rfl⟩ rfl hl.1 rfl (Nat.le_of_ble_eq_true rfl) ⟨Nat.le_of_ble_eq_true rfl, Nat.le_of_ble_eq_true rfl⟩ ddX2_fill_1 (fun σ1 H locs hS h => ?_)
  refine lv_iconst (v := (0 : Int32)) hx hb ddX2_fill_4 (by decide) ?_
  refine lv_istore_n (lv' := [(2, .int (0 : Int32)), (0, .ref (ga X 1)), (1, .int x1)]) hx hb ddX2_fill_5 rfl hl (by decide) rfl (fun ls hl => ?_)
  refine lv_iconst (v := (0 : Int32)) hx hb ddX2_fill_6 (by decide) ?_
  refine lv_istore_n (lv' := [(3, .int (0 : Int32)), (2, .int (0 : Int32)), (0, .ref (ga X 1)), (1, .int x1)]) hx hb ddX2_fill_7 rfl hl (by decide) rfl (fun ls hl => ?_)
  refine lv_iconst (v := (0 : Int32)) hx hb ddX2_fill_8 (by decide) ?_
  refine lv_istore (lv' := [(4, .int (0 : Int32)), (3, .int (0 : Int32)), (2, .int (0 : Int32)), (0, .ref (ga X 1)), (1, .int x1)]) hx hb ddX2_fill_9 hl (by decide) rfl (fun ls hl => ?_)
  obtain ⟨n, h⟩ := h
  exact hL11 n _ _ _ _ _ _ _ _ hS (lv_sub hl [3, 4, 2, 1, 0] rfl) h

set_option maxHeartbeats 4000000 in
set_option maxRecDepth 100000 in
theorem c_X2_dropLeave (l : Launch) (X : GX) {x1 x2 : Int32} {σ : Mem} {K : Mem → Prop} (h : wp_X2_dropLeave x1 x2 σ K) : MV l X yX2_dropLeave cX2_dropLeave 3 ((Option.none : Option Jvm.ClassFile.FieldType)) ({ frames := 1, cells := 0, slots := 0, locals := 21 } : Room) [.ref (ga X 1), .int x1, .int x2] σ K := by
  refine ent_met (QQ := fun A => va_Qv K (BW X A) A) (by decide) (Nat.le_of_ble_eq_true rfl) ?_
  intro p e s m args below meth c A ls hx hb hr hlocks hml hown ht hK hZ hA hS hl
  have hown : s.vm.findClass "GuardRoster$Roster" = some m.cls := hown
  have hl : lv_has ls 3 [(0, .ref (ga X 1)), (1, .int x1), (2, .int x2)] := hl
  unfold wp_X2_dropLeave at h
  refine lv_aload_n hx hb ddX2_dropLeave_0 rfl (lv_at hl 0 rfl) ?_
  refine lv_iload_n hx hb ddX2_dropLeave_1 rfl (lv_at hl 1 rfl) ?_
  refine k_VI (As := [.int x1]) (rest := []) (c_X2_isGuard l X h) mf_X2_isGuard lk329 hx hb hml hown ht hK hZ hS hA 1 1 rfl rfl rfl ⟨rfl, rfl⟩ ⟨Nat.le_of_ble_eq_true rfl, Nat.le_of_ble_eq_true rfl⟩ rfl hl.1 rfl (Nat.le_of_ble_eq_true rfl) ⟨Nat.le_of_ble_eq_true rfl, Nat.le_of_ble_eq_true rfl⟩ ddX2_dropLeave_2 (fun r2 σ1 H locs hS h => ?_)
  refine lv_if_eq (tgt := 25) hx hb ddX2_dropLeave_5 (by decide) (fun c3 => ?_) (fun c3 => ?_)
  · replace h := h.1 c3
    exact k_vret hx hb hr hlocks hK hS h ddX2_dropLeave_25
  · replace h := h.2 c3
    refine lv_aload_n hx hb ddX2_dropLeave_8 rfl (lv_at hl 0 rfl) ?_
    refine get_1_0 hx hb hown ht hK hS lk38 ddX2_dropLeave_9 ?_
    refine lv_bipush (v := (29 : Int32)) hx hb ddX2_dropLeave_12 (by decide) ?_
    refine lv_iload_n hx hb ddX2_dropLeave_14 rfl (lv_at hl 1 rfl) ?_
    refine lv_iadd hx hb ddX2_dropLeave_15 ?_
    refine lv_dup2_11 hx hb ddX2_dropLeave_16 rfl rfl ?_
    refine ald_2 hx hb hK hS h.1 ddX2_dropLeave_17 ?_
    replace h := h.2
    refine lv_iconst (v := (1 : Int32)) hx hb ddX2_dropLeave_18 (by decide) ?_
    refine lv_iload_n hx hb ddX2_dropLeave_19 rfl (lv_at hl 2 rfl) ?_
    refine lv_ishl hx hb ddX2_dropLeave_20 ?_
    refine lv_iconst (v := (-1 : Int32)) hx hb ddX2_dropLeave_21 (by decide) ?_
    refine lv_ixor hx hb ddX2_dropLeave_22 ?_
    refine lv_iand hx hb ddX2_dropLeave_23 ?_
    refine ast_2 hx hb hK hS h.1 ddX2_dropLeave_24 (fun H locs hS => ?_)
    replace h := h.2
    obtain ⟨σ4, eσ4⟩ : ∃ y : Mem, y = (st σ1 2 ((29 : Int32) + x1).toNatClampNeg ((σ1 2 ((29 : Int32) + x1).toNatClampNeg) &&& (((1 : Int32) <<< (x2 &&& 31)) ^^^ (-1 : Int32)))) := ⟨_, rfl⟩
    rw [← eσ4] at hS
    replace h := h σ4 eσ4
    exact k_vret hx hb hr hlocks hK hS h ddX2_dropLeave_25

set_option maxHeartbeats 4000000 in
set_option maxRecDepth 100000 in
theorem c_X2_store (l : Launch) (X : GX) {x1 : Int32} {σ : Mem} {K : Mem → Prop} (h : wp_X2_store x1 σ K) : MV l X yX2_store cX2_store 2 ((Option.none : Option Jvm.ClassFile.FieldType)) ({ frames := 0, cells := 0, slots := 0, locals := 0 } : Room) [.ref (ga X 1), .int x1] σ K := by
  refine ent_met (QQ := fun A => va_Qv K (BW X A) A) (by decide) (Nat.le_of_ble_eq_true rfl) ?_
  intro p e s m args below meth c A ls hx hb hr hlocks hml hown ht hK hZ hA hS hl
  have hown : s.vm.findClass "GuardRoster$Roster" = some m.cls := hown
  have hl : lv_has ls 2 [(0, .ref (ga X 1)), (1, .int x1)] := hl
  unfold wp_X2_store at h
  refine lv_aload_n hx hb ddX2_store_0 rfl (lv_at hl 0 rfl) ?_
  refine get_1_0 hx hb hown ht hK hS lk38 ddX2_store_1 ?_
  refine lv_iconst (v := (2 : Int32)) hx hb ddX2_store_4 (by decide) ?_
  refine lv_dup2_11 hx hb ddX2_store_5 rfl rfl ?_
  refine aldk_2 hx hb hK hS 2 (by unfold vp_in; decide) rfl ddX2_store_6 ?_
  refine lv_iload_n hx hb ddX2_store_7 rfl (lv_at hl 1 rfl) ?_
  refine lv_iadd hx hb ddX2_store_8 ?_
  refine astk_2 hx hb hK hS 2 (by unfold vp_in; decide) rfl ddX2_store_9 (fun H locs hS => ?_)
  obtain ⟨σ1, eσ1⟩ : ∃ y : Mem, y = (st σ 2 2 ((σ 2 2) + x1)) := ⟨_, rfl⟩
  rw [← eσ1] at hS
  replace h := h σ1 eσ1
  exact k_vret hx hb hr hlocks hK hS h ddX2_store_10

set_option maxHeartbeats 4000000 in
set_option maxRecDepth 100000 in
theorem c_X2_feedGuardsOf (l : Launch) (X : GX) {x1 : Int32} {σ : Mem} {K : Int32 → Mem → Prop} (h : wp_X2_feedGuardsOf x1 σ K) : MI l X yX2_feedGuardsOf cX2_feedGuardsOf 5 ((Option.some Jvm.ClassFile.FieldType.int)) ({ frames := 2, cells := 0, slots := 0, locals := 43 } : Room) [.ref (ga X 1), .int x1] σ K := by
  refine ent_met (QQ := fun A => va_Qi K (BW X A) A) (by decide) (Nat.le_of_ble_eq_true rfl) ?_
  intro p e s m args below meth c A ls hx hb hr hlocks hml hown ht hK hZ hA hS hl
  have hown : s.vm.findClass "GuardRoster$Roster" = some m.cls := hown
  have hl : lv_has ls 5 [(0, .ref (ga X 1)), (1, .int x1)] := hl
  have hL4 : ∀ (n : Nat) (x1 x2 x3 : Int32) (σ : Mem) (H : Heap) (locs : List Loc) (ls : Array Slot), WS X A s.heap σ H locs → lv_has ls 5 [(0, .ref (ga X 1)), (1, .int x1), (2, .int x2), (3, .int x3)] → wlp (wpF_X2_feedGuardsOf_4 K) n (x1, x2, x3, σ) → WI X K p l e ({ frames := 2, cells := 0, slots := 0, locals := 43 } : Room) s m args below meth c A H locs (F0 m 4 ls []) := by
    intro n4
    induction n4 with
    | zero => intro x1 x2 x3 σ H locs ls hS hl h; exact h.elim
    | succ n4 ih4 =>
      have hJ77 : ∀ (x1 x2 x3 : Int32) (σ : Mem) (H : Heap) (locs : List Loc) (ls : Array Slot), WS X A s.heap σ H locs → lv_has ls 5 [(0, .ref (ga X 1)), (1, .int x1), (2, .int x2), (3, .int x3)] → wpJ_X2_feedGuardsOf_77 K (wlp (wpF_X2_feedGuardsOf_4 K) n4) x1 x2 x3 σ → WI X K p l e ({ frames := 2, cells := 0, slots := 0, locals := 43 } : Room) s m args below meth c A H locs (F0 m 77 ls []) := by
        intro x1 x2 x3 σ H locs ls hS hl h
        unfold wpJ_X2_feedGuardsOf_77 at h
        obtain ⟨v12, ev12⟩ : ∃ y : Int32, y = x3 + (1 : Int32) := ⟨_, rfl⟩
        replace h := h v12 ev12
        refine lv_iinc (v := v12) (lv' := [(3, .int v12), (0, .ref (ga X 1)), (1, .int x1), (2, .int x2)]) hx hb ddX2_feedGuardsOf_77 hl (k := 3) rfl (by rw [ev12]; rfl) (by decide) rfl (fun ls hl => ?_)
        refine lv_goto (tgt := 4) hx hb ddX2_feedGuardsOf_80 (by decide) ?_
        exact ih4 _ _ _ _ _ _ _ hS (lv_sub hl [1, 2, 3, 0] rfl) h
      have hJ51 : ∀ (x1 x2 x3 x4 : Int32) (σ : Mem) (H : Heap) (locs : List Loc) (ls : Array Slot), WS X A s.heap σ H locs → lv_has ls 5 [(0, .ref (ga X 1)), (1, .int x1), (2, .int x2), (3, .int x3), (4, .int x4)] → wpJ_X2_feedGuardsOf_51 K (wlp (wpF_X2_feedGuardsOf_4 K) n4) x1 x2 x3 x4 σ → WI X K p l e ({ frames := 2, cells := 0, slots := 0, locals := 43 } : Room) s m args below meth c A H locs (F0 m 51 ls []) := by
        intro x1 x2 x3 x4 σ H locs ls hS hl h
        unfold wpJ_X2_feedGuardsOf_51 at h
        refine lv_aload_n hx hb ddX2_feedGuardsOf_51 rfl (lv_at hl 0 rfl) ?_
        refine lv_iload hx hb ddX2_feedGuardsOf_52 (lv_at hl 4 rfl) ?_
        refine k_VI (As := [.int x4]) (rest := []) (c_X2_isGuard l X h) mf_X2_isGuard lk329 hx hb hml hown ht hK hZ hS hA 1 1 rfl rfl rfl ⟨rfl, rfl⟩ ⟨Nat.le_of_ble_eq_true rfl, Nat.le_of_ble_eq_true rfl⟩ rfl hl.1 rfl (Nat.le_of_ble_eq_true rfl) ⟨Nat.le_of_ble_eq_true rfl, Nat.le_of_ble_eq_true rfl⟩ ddX2_feedGuardsOf_54 (fun r10 σ9 H locs hS h => ?_)
        refine lv_if_eq (tgt := 77) hx hb ddX2_feedGuardsOf_57 (by decide) (fun c11 => ?_) (fun c11 => ?_)
        · replace h := h.1 c11
          exact hJ77 _ _ _ _ _ _ _ hS (lv_sub hl [0, 1, 2, 3] rfl) h
        · replace h := h.2 c11
          refine lv_aload_n hx hb ddX2_feedGuardsOf_60 rfl (lv_at hl 0 rfl) ?_
          refine get_1_0 hx hb hown ht hK hS lk38 ddX2_feedGuardsOf_61 ?_
          refine lv_bipush (v := (19 : Int32)) hx hb ddX2_feedGuardsOf_64 (by decide) ?_
          refine lv_iload hx hb ddX2_feedGuardsOf_66 (lv_at hl 4 rfl) ?_
          refine lv_iadd hx hb ddX2_feedGuardsOf_68 ?_
          refine lv_dup2_11 hx hb ddX2_feedGuardsOf_69 rfl rfl ?_
          refine ald_2 hx hb hK hS h.1 ddX2_feedGuardsOf_70 ?_
          replace h := h.2
          refine lv_iconst (v := (1 : Int32)) hx hb ddX2_feedGuardsOf_71 (by decide) ?_
          refine lv_iadd hx hb ddX2_feedGuardsOf_72 ?_
          refine ast_2 hx hb hK hS h.1 ddX2_feedGuardsOf_73 (fun H locs hS => ?_)
          replace h := h.2
          obtain ⟨σ13, eσ13⟩ : ∃ y : Mem, y = (st σ9 2 ((19 : Int32) + x4).toNatClampNeg ((σ9 2 ((19 : Int32) + x4).toNatClampNeg) + (1 : Int32))) := ⟨_, rfl⟩
          rw [← eσ13] at hS
          replace h := h σ13 eσ13
          obtain ⟨v14, ev14⟩ : ∃ y : Int32, y = x2 + (1 : Int32) := ⟨_, rfl⟩
          replace h := h v14 ev14
          refine lv_iinc (v := v14) (lv' := [(2, .int v14), (0, .ref (ga X 1)), (1, .int x1), (3, .int x3), (4, .int x4)]) hx hb ddX2_feedGuardsOf_74 hl (k := 2) rfl (by rw [ev14]; rfl) (by decide) rfl (fun ls hl => ?_)
          exact hJ77 _ _ _ _ _ _ _ hS (lv_sub hl [1, 2, 0, 3] rfl) h
      intro x1 x2 x3 σ H locs ls hS hl h
      replace h : wpS_X2_feedGuardsOf_4 K (wlp (wpF_X2_feedGuardsOf_4 K) n4) x1 x2 x3 σ := h
      unfold wpS_X2_feedGuardsOf_4 at h
      refine lv_iload_n hx hb ddX2_feedGuardsOf_4 rfl (lv_at hl 3 rfl) ?_
      refine lv_aload_n hx hb ddX2_feedGuardsOf_5 rfl (lv_at hl 0 rfl) ?_
      refine k_VI (As := []) (rest := [.int x3]) (c_X2_gates l X h) mf_X2_gates lk173 hx hb hml hown ht hK hZ hS hA 1 1 rfl rfl rfl ⟨rfl, rfl⟩ ⟨Nat.le_of_ble_eq_true rfl, Nat.le_of_ble_eq_true rfl⟩ rfl hl.1 rfl (Nat.le_of_ble_eq_true rfl) ⟨Nat.le_of_ble_eq_true rfl, Nat.le_of_ble_eq_true rfl⟩ ddX2_feedGuardsOf_6 (fun r2 σ1 H locs hS h => ?_)
      refine lv_icmp_ge (tgt := 83) hx hb ddX2_feedGuardsOf_9 (by decide) (fun c3 => ?_) (fun c3 => ?_)
      · replace h := h.1 c3
        refine lv_iload_n hx hb ddX2_feedGuardsOf_83 rfl (lv_at hl 2 rfl) ?_
        exact k_iret hx hb hr hlocks hK hS h ddX2_feedGuardsOf_84
      · replace h := h.2 c3
        refine lv_aload_n hx hb ddX2_feedGuardsOf_12 rfl (lv_at hl 0 rfl) ?_
        refine lv_iload_n hx hb ddX2_feedGuardsOf_13 rfl (lv_at hl 3 rfl) ?_
        refine lv_iload_n hx hb ddX2_feedGuardsOf_14 rfl (lv_at hl 1 rfl) ?_
        refine k_VI (As := [.int x3, .int x1]) (rest := []) (c_X2_guardOn l X h) mf_X2_guardOn lk178 hx hb hml hown ht hK hZ hS hA 1 1 rfl rfl rfl ⟨rfl, rfl⟩ ⟨Nat.le_of_ble_eq_true rfl, Nat.le_of_ble_eq_true rfl⟩ rfl hl.1 rfl (Nat.le_of_ble_eq_true rfl) ⟨Nat.le_of_ble_eq_true rfl, Nat.le_of_ble_eq_true rfl⟩ ddX2_feedGuardsOf_15 (fun r5 σ4 H locs hS h => ?_)
        refine lv_istore (lv' := [(4, .int r5), (0, .ref (ga X 1)), (1, .int x1), (2, .int x2), (3, .int x3)]) hx hb ddX2_feedGuardsOf_18 hl (by decide) rfl (fun ls hl => ?_)
        refine lv_aload_n hx hb ddX2_feedGuardsOf_20 rfl (lv_at hl 1 rfl) ?_
        refine lv_iload hx hb ddX2_feedGuardsOf_21 (lv_at hl 0 rfl) ?_
        refine k_VI (As := [.int r5]) (rest := []) (c_X2_isGuard l X h) mf_X2_isGuard lk329 hx hb hml hown ht hK hZ hS hA 1 1 rfl rfl rfl ⟨rfl, rfl⟩ ⟨Nat.le_of_ble_eq_true rfl, Nat.le_of_ble_eq_true rfl⟩ rfl hl.1 rfl (Nat.le_of_ble_eq_true rfl) ⟨Nat.le_of_ble_eq_true rfl, Nat.le_of_ble_eq_true rfl⟩ ddX2_feedGuardsOf_23 (fun r7 σ6 H locs hS h => ?_)
        refine lv_if_eq (tgt := 51) hx hb ddX2_feedGuardsOf_26 (by decide) (fun c8 => ?_) (fun c8 => ?_)
        · replace h := h.1 c8
          exact hJ51 _ _ _ _ _ _ _ _ hS (lv_sub hl [1, 2, 3, 4, 0] rfl) h
        · replace h := h.2 c8
          refine lv_aload_n hx hb ddX2_feedGuardsOf_29 rfl (lv_at hl 1 rfl) ?_
          refine get_1_0 hx hb hown ht hK hS lk38 ddX2_feedGuardsOf_30 ?_
          refine lv_iconst (v := (2 : Int32)) hx hb ddX2_feedGuardsOf_33 (by decide) ?_
          refine aldk_2 hx hb hK hS 2 (by unfold vp_in; decide) rfl ddX2_feedGuardsOf_34 ?_
          refine lv_if_le (tgt := 51) hx hb ddX2_feedGuardsOf_35 (by decide) (fun c15 => ?_) (fun c15 => ?_)
          · replace h := h.1 c15
            exact hJ51 _ _ _ _ _ _ _ _ hS (lv_sub hl [1, 2, 3, 4, 0] rfl) h
          · replace h := h.2 c15
            refine lv_aload_n hx hb ddX2_feedGuardsOf_38 rfl (lv_at hl 1 rfl) ?_
            refine get_1_0 hx hb hown ht hK hS lk38 ddX2_feedGuardsOf_39 ?_
            refine lv_iconst (v := (2 : Int32)) hx hb ddX2_feedGuardsOf_42 (by decide) ?_
            refine lv_dup2_11 hx hb ddX2_feedGuardsOf_43 rfl rfl ?_
            refine aldk_2 hx hb hK hS 2 (by unfold vp_in; decide) rfl ddX2_feedGuardsOf_44 ?_
            refine lv_iconst (v := (1 : Int32)) hx hb ddX2_feedGuardsOf_45 (by decide) ?_
            refine lv_isub hx hb ddX2_feedGuardsOf_46 ?_
            refine astk_2 hx hb hK hS 2 (by unfold vp_in; decide) rfl ddX2_feedGuardsOf_47 (fun H locs hS => ?_)
            obtain ⟨σ16, eσ16⟩ : ∃ y : Mem, y = (st σ6 2 2 ((σ6 2 2) - (1 : Int32))) := ⟨_, rfl⟩
            rw [← eσ16] at hS
            replace h := h σ16 eσ16
            refine lv_goto (tgt := 77) hx hb ddX2_feedGuardsOf_48 (by decide) ?_
            exact hJ77 _ _ _ _ _ _ _ hS (lv_sub hl [1, 2, 3, 4] rfl) h
  unfold wp_X2_feedGuardsOf at h
  refine lv_iconst (v := (0 : Int32)) hx hb ddX2_feedGuardsOf_0 (by decide) ?_
  refine lv_istore_n (lv' := [(2, .int (0 : Int32)), (0, .ref (ga X 1)), (1, .int x1)]) hx hb ddX2_feedGuardsOf_1 rfl hl (by decide) rfl (fun ls hl => ?_)
  refine lv_iconst (v := (0 : Int32)) hx hb ddX2_feedGuardsOf_2 (by decide) ?_
  refine lv_istore_n (lv' := [(3, .int (0 : Int32)), (2, .int (0 : Int32)), (0, .ref (ga X 1)), (1, .int x1)]) hx hb ddX2_feedGuardsOf_3 rfl hl (by decide) rfl (fun ls hl => ?_)
  obtain ⟨n, h⟩ := h
  exact hL4 n _ _ _ _ _ _ _ hS (lv_sub hl [2, 3, 1, 0] rfl) h

set_option maxHeartbeats 4000000 in
set_option maxRecDepth 100000 in
theorem c_X2_letPass (l : Launch) (X : GX) {x1 : Int32} {σ : Mem} {K : Int32 → Mem → Prop} (h : wp_X2_letPass x1 σ K) : MI l X yX2_letPass cX2_letPass 4 ((Option.some Jvm.ClassFile.FieldType.int)) ({ frames := 3, cells := 0, slots := 0, locals := 67 } : Room) [.ref (ga X 1), .int x1] σ K := by
  refine ent_met (QQ := fun A => va_Qi K (BW X A) A) (by decide) (Nat.le_of_ble_eq_true rfl) ?_
  intro p e s m args below meth c A ls hx hb hr hlocks hml hown ht hK hZ hA hS hl
  have hown : s.vm.findClass "GuardRoster$Roster" = some m.cls := hown
  have hl : lv_has ls 4 [(0, .ref (ga X 1)), (1, .int x1)] := hl
  have hL4 : ∀ (n : Nat) (x1 x2 x3 : Int32) (σ : Mem) (H : Heap) (locs : List Loc) (ls : Array Slot), WS X A s.heap σ H locs → lv_has ls 4 [(0, .ref (ga X 1)), (1, .int x1), (2, .int x2), (3, .int x3)] → wlp (wpF_X2_letPass_4 K) n (x1, x2, x3, σ) → WI X K p l e ({ frames := 3, cells := 0, slots := 0, locals := 67 } : Room) s m args below meth c A H locs (F0 m 4 ls []) := by
    intro n4
    induction n4 with
    | zero => intro x1 x2 x3 σ H locs ls hS hl h; exact h.elim
    | succ n4 ih4 =>
      intro x1 x2 x3 σ H locs ls hS hl h
      replace h : wpS_X2_letPass_4 K (wlp (wpF_X2_letPass_4 K) n4) x1 x2 x3 σ := h
      unfold wpS_X2_letPass_4 at h
      refine lv_iload_n hx hb ddX2_letPass_4 rfl (lv_at hl 3 rfl) ?_
      refine lv_iload_n hx hb ddX2_letPass_5 rfl (lv_at hl 1 rfl) ?_
      refine lv_icmp_ge (tgt := 49) hx hb ddX2_letPass_6 (by decide) (fun c1 => ?_) (fun c1 => ?_)
      · replace h := h.1 c1
        refine lv_iload_n hx hb ddX2_letPass_49 rfl (lv_at hl 2 rfl) ?_
        exact k_iret hx hb hr hlocks hK hS h ddX2_letPass_50
      · replace h := h.2 c1
        refine lv_aload_n hx hb ddX2_letPass_9 rfl (lv_at hl 0 rfl) ?_
        refine get_1_0 hx hb hown ht hK hS lk38 ddX2_letPass_10 ?_
        refine lv_iconst (v := (3 : Int32)) hx hb ddX2_letPass_13 (by decide) ?_
        refine aldk_2 hx hb hK hS 3 (by unfold vp_in; decide) rfl ddX2_letPass_14 ?_
        refine lv_bipush (v := (28 : Int32)) hx hb ddX2_letPass_15 (by decide) ?_
        refine lv_icmp_ge (tgt := 49) hx hb ddX2_letPass_17 (by decide) (fun c2 => ?_) (fun c2 => ?_)
        · replace h := h.1 c2
          refine lv_iload_n hx hb ddX2_letPass_49 rfl (lv_at hl 2 rfl) ?_
          exact k_iret hx hb hr hlocks hK hS h ddX2_letPass_50
        · replace h := h.2 c2
          refine lv_iload_n hx hb ddX2_letPass_20 rfl (lv_at hl 2 rfl) ?_
          refine lv_aload_n hx hb ddX2_letPass_21 rfl (lv_at hl 0 rfl) ?_
          refine lv_aload_n hx hb ddX2_letPass_22 rfl (lv_at hl 0 rfl) ?_
          refine get_1_0 hx hb hown ht hK hS lk38 ddX2_letPass_23 ?_
          refine lv_iconst (v := (3 : Int32)) hx hb ddX2_letPass_26 (by decide) ?_
          refine aldk_2 hx hb hK hS 3 (by unfold vp_in; decide) rfl ddX2_letPass_27 ?_
          refine k_VI (As := [.int (σ 2 3)]) (rest := [.int x2]) (c_X2_feedGuardsOf l X h) mf_X2_feedGuardsOf lk837 hx hb hml hown ht hK hZ hS hA 1 1 rfl rfl rfl ⟨rfl, rfl⟩ ⟨Nat.le_of_ble_eq_true rfl, Nat.le_of_ble_eq_true rfl⟩ rfl hl.1 rfl (Nat.le_of_ble_eq_true rfl) ⟨Nat.le_of_ble_eq_true rfl, Nat.le_of_ble_eq_true rfl⟩ ddX2_letPass_28 (fun r4 σ3 H locs hS h => ?_)
          refine lv_iadd hx hb ddX2_letPass_31 ?_
          refine lv_topi (fun v5 ev5 => ?_)
          replace h := h v5 ev5
          refine lv_istore_n (lv' := [(2, .int v5), (0, .ref (ga X 1)), (1, .int x1), (3, .int x3)]) hx hb ddX2_letPass_32 rfl hl (by decide) rfl (fun ls hl => ?_)
          refine lv_aload_n hx hb ddX2_letPass_33 rfl (lv_at hl 1 rfl) ?_
          refine get_1_0 hx hb hown ht hK hS lk38 ddX2_letPass_34 ?_
          refine lv_iconst (v := (3 : Int32)) hx hb ddX2_letPass_37 (by decide) ?_
          refine lv_dup2_11 hx hb ddX2_letPass_38 rfl rfl ?_
          refine aldk_2 hx hb hK hS 3 (by unfold vp_in; decide) rfl ddX2_letPass_39 ?_
          refine lv_iconst (v := (1 : Int32)) hx hb ddX2_letPass_40 (by decide) ?_
          refine lv_iadd hx hb ddX2_letPass_41 ?_
          refine astk_2 hx hb hK hS 3 (by unfold vp_in; decide) rfl ddX2_letPass_42 (fun H locs hS => ?_)
          obtain ⟨σ6, eσ6⟩ : ∃ y : Mem, y = (st σ3 2 3 ((σ3 2 3) + (1 : Int32))) := ⟨_, rfl⟩
          rw [← eσ6] at hS
          replace h := h σ6 eσ6
          obtain ⟨v7, ev7⟩ : ∃ y : Int32, y = x3 + (1 : Int32) := ⟨_, rfl⟩
          replace h := h v7 ev7
          refine lv_iinc (v := v7) (lv' := [(3, .int v7), (2, .int v5), (0, .ref (ga X 1)), (1, .int x1)]) hx hb ddX2_letPass_43 hl (k := 3) rfl (by rw [ev7]; rfl) (by decide) rfl (fun ls hl => ?_)
          refine lv_goto (tgt := 4) hx hb ddX2_letPass_46 (by decide) ?_
          exact ih4 _ _ _ _ _ _ _ hS (lv_sub hl [2, 3, 1, 0] rfl) h
  unfold wp_X2_letPass at h
  refine lv_iconst (v := (0 : Int32)) hx hb ddX2_letPass_0 (by decide) ?_
  refine lv_istore_n (lv' := [(2, .int (0 : Int32)), (0, .ref (ga X 1)), (1, .int x1)]) hx hb ddX2_letPass_1 rfl hl (by decide) rfl (fun ls hl => ?_)
  refine lv_iconst (v := (0 : Int32)) hx hb ddX2_letPass_2 (by decide) ?_
  refine lv_istore_n (lv' := [(3, .int (0 : Int32)), (2, .int (0 : Int32)), (0, .ref (ga X 1)), (1, .int x1)]) hx hb ddX2_letPass_3 rfl hl (by decide) rfl (fun ls hl => ?_)
  obtain ⟨n, h⟩ := h
  exact hL4 n _ _ _ _ _ _ _ hS (lv_sub hl [2, 3, 1, 0] rfl) h
