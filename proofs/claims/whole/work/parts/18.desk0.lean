set_option maxHeartbeats 4000000 in
set_option maxRecDepth 100000 in
theorem c_X4_isRank (l : Launch) (X : GX) {x0 : Int32} {σ : Mem} {K : Int32 → Mem → Prop} (h : wp_X4_isRank x0 σ K) : MI l X yX4_isRank cX4_isRank 1 ((Option.some Jvm.ClassFile.FieldType.boolean)) ({ frames := 0, cells := 0, slots := 0, locals := 0 } : Room) [.int x0] σ K := by
  refine ent_met (QQ := fun A => va_Qi K (BW X A) A) (by decide) (Nat.le_of_ble_eq_true rfl) ?_
  intro p e s m args below meth c A ls hx hb hr hlocks hml hown ht hK hZ hA hS hl
  have hown : s.vm.findClass "GuardRoster" = some m.cls := hown
  have hl : lv_has ls 1 [(0, .int x0)] := hl
  unfold wp_X4_isRank at h
  refine lv_iload_n hx hb ddX4_isRank_0 rfl (lv_at hl 0 rfl) ?_
  refine lv_iconst (v := (1 : Int32)) hx hb ddX4_isRank_1 (by decide) ?_
  refine lv_icmp_lt (tgt := 15) hx hb ddX4_isRank_2 (by decide) (fun c1 => ?_) (fun c1 => ?_)
  · replace h := h.1 c1
    refine lv_iconst (v := (0 : Int32)) hx hb ddX4_isRank_15 (by decide) ?_
    exact k_zret hx hb hr hlocks hK hS rfl h ddX4_isRank_16
  · replace h := h.2 c1
    refine lv_iload_n hx hb ddX4_isRank_5 rfl (lv_at hl 0 rfl) ?_
    refine lv_bipush (v := (9 : Int32)) hx hb ddX4_isRank_6 (by decide) ?_
    refine lv_icmp_gt (tgt := 15) hx hb ddX4_isRank_8 (by decide) (fun c2 => ?_) (fun c2 => ?_)
    · replace h := h.1 c2
      refine lv_iconst (v := (0 : Int32)) hx hb ddX4_isRank_15 (by decide) ?_
      exact k_zret hx hb hr hlocks hK hS rfl h ddX4_isRank_16
    · replace h := h.2 c2
      refine lv_iconst (v := (1 : Int32)) hx hb ddX4_isRank_11 (by decide) ?_
      refine lv_goto (tgt := 16) hx hb ddX4_isRank_12 (by decide) ?_
      exact k_zret hx hb hr hlocks hK hS rfl h ddX4_isRank_16

set_option maxHeartbeats 4000000 in
set_option maxRecDepth 100000 in
theorem c_X4_problemOfGate (l : Launch) (X : GX) {x1 : Int32} {σ : Mem} {K : Int32 → Mem → Prop} (h : wp_X4_problemOfGate x1 σ K) : MI l X yX4_problemOfGate cX4_problemOfGate 2 ((Option.some Jvm.ClassFile.FieldType.int)) ({ frames := 1, cells := 0, slots := 0, locals := 20 } : Room) [.ref (ga X 0), .int x1] σ K := by
  refine ent_met (QQ := fun A => va_Qi K (BW X A) A) (by decide) (Nat.le_of_ble_eq_true rfl) ?_
  intro p e s m args below meth c A ls hx hb hr hlocks hml hown ht hK hZ hA hS hl
  have hown : s.vm.findClass "GuardRoster" = some m.cls := hown
  have hl : lv_has ls 2 [(0, .ref (ga X 0)), (1, .int x1)] := hl
  unfold wp_X4_problemOfGate at h
  refine lv_iload_n hx hb ddX4_problemOfGate_0 rfl (lv_at hl 1 rfl) ?_
  refine k_SI (As := [.int x1]) (rest := []) (c_X4_isRank l X h) mf_X4_isRank lk408 hx hb hml hown ht hK hZ hS hA ⟨rfl, rfl⟩ ⟨Nat.le_of_ble_eq_true rfl, Nat.le_of_ble_eq_true rfl⟩ rfl hl.1 rfl (Nat.le_of_ble_eq_true rfl) ⟨Nat.le_of_ble_eq_true rfl, Nat.le_of_ble_eq_true rfl⟩ ddX4_problemOfGate_1 (fun r2 σ1 H locs hS h => ?_)
  refine lv_if_ne (tgt := 9) hx hb ddX4_problemOfGate_4 (by decide) (fun c3 => ?_) (fun c3 => ?_)
  · replace h := h.1 c3
    refine lv_aload_n hx hb ddX4_problemOfGate_9 rfl (lv_at hl 0 rfl) ?_
    refine get_0_0 hx hb hown ht hK hS lk109 ddX4_problemOfGate_10 ?_
    refine k_VI (As := []) (rest := []) (c_X2_gates l X h) mf_X2_gates lk150 hx hb hml hown ht hK hZ hS hA 1 1 rfl rfl rfl ⟨rfl, rfl⟩ ⟨Nat.le_of_ble_eq_true rfl, Nat.le_of_ble_eq_true rfl⟩ rfl hl.1 rfl (Nat.le_of_ble_eq_true rfl) ⟨Nat.le_of_ble_eq_true rfl, Nat.le_of_ble_eq_true rfl⟩ ddX4_problemOfGate_13 (fun r5 σ4 H locs hS h => ?_)
    refine lv_iconst (v := (5 : Int32)) hx hb ddX4_problemOfGate_16 (by decide) ?_
    refine lv_icmp_lt (tgt := 24) hx hb ddX4_problemOfGate_17 (by decide) (fun c6 => ?_) (fun c6 => ?_)
    · replace h := h.1 c6
      refine lv_iconst (v := (0 : Int32)) hx hb ddX4_problemOfGate_24 (by decide) ?_
      exact k_iret hx hb hr hlocks hK hS h ddX4_problemOfGate_25
    · replace h := h.2 c6
      refine lv_iconst (v := (3 : Int32)) hx hb ddX4_problemOfGate_20 (by decide) ?_
      refine lv_goto (tgt := 25) hx hb ddX4_problemOfGate_21 (by decide) ?_
      exact k_iret hx hb hr hlocks hK hS h ddX4_problemOfGate_25
  · replace h := h.2 c3
    refine lv_iconst (v := (2 : Int32)) hx hb ddX4_problemOfGate_7 (by decide) ?_
    exact k_iret hx hb hr hlocks hK hS h ddX4_problemOfGate_8

set_option maxHeartbeats 4000000 in
set_option maxRecDepth 100000 in
theorem c_X4_problemOfGuard (l : Launch) (X : GX) {x1 : Int32} {σ : Mem} {K : Int32 → Mem → Prop} (h : wp_X4_problemOfGuard x1 σ K) : MI l X yX4_problemOfGuard cX4_problemOfGuard 2 ((Option.some Jvm.ClassFile.FieldType.int)) ({ frames := 1, cells := 0, slots := 0, locals := 20 } : Room) [.ref (ga X 0), .int x1] σ K := by
  refine ent_met (QQ := fun A => va_Qi K (BW X A) A) (by decide) (Nat.le_of_ble_eq_true rfl) ?_
  intro p e s m args below meth c A ls hx hb hr hlocks hml hown ht hK hZ hA hS hl
  have hown : s.vm.findClass "GuardRoster" = some m.cls := hown
  have hl : lv_has ls 2 [(0, .ref (ga X 0)), (1, .int x1)] := hl
  unfold wp_X4_problemOfGuard at h
  refine lv_iload_n hx hb ddX4_problemOfGuard_0 rfl (lv_at hl 1 rfl) ?_
  refine k_SI (As := [.int x1]) (rest := []) (c_X4_isRank l X h) mf_X4_isRank lk408 hx hb hml hown ht hK hZ hS hA ⟨rfl, rfl⟩ ⟨Nat.le_of_ble_eq_true rfl, Nat.le_of_ble_eq_true rfl⟩ rfl hl.1 rfl (Nat.le_of_ble_eq_true rfl) ⟨Nat.le_of_ble_eq_true rfl, Nat.le_of_ble_eq_true rfl⟩ ddX4_problemOfGuard_1 (fun r2 σ1 H locs hS h => ?_)
  refine lv_if_ne (tgt := 9) hx hb ddX4_problemOfGuard_4 (by decide) (fun c3 => ?_) (fun c3 => ?_)
  · replace h := h.1 c3
    refine lv_aload_n hx hb ddX4_problemOfGuard_9 rfl (lv_at hl 0 rfl) ?_
    refine get_0_0 hx hb hown ht hK hS lk109 ddX4_problemOfGuard_10 ?_
    refine k_VI (As := []) (rest := []) (c_X2_guards l X h) mf_X2_guards lk158 hx hb hml hown ht hK hZ hS hA 1 1 rfl rfl rfl ⟨rfl, rfl⟩ ⟨Nat.le_of_ble_eq_true rfl, Nat.le_of_ble_eq_true rfl⟩ rfl hl.1 rfl (Nat.le_of_ble_eq_true rfl) ⟨Nat.le_of_ble_eq_true rfl, Nat.le_of_ble_eq_true rfl⟩ ddX4_problemOfGuard_13 (fun r5 σ4 H locs hS h => ?_)
    refine lv_bipush (v := (10 : Int32)) hx hb ddX4_problemOfGuard_16 (by decide) ?_
    refine lv_icmp_lt (tgt := 25) hx hb ddX4_problemOfGuard_18 (by decide) (fun c6 => ?_) (fun c6 => ?_)
    · replace h := h.1 c6
      refine lv_iconst (v := (0 : Int32)) hx hb ddX4_problemOfGuard_25 (by decide) ?_
      exact k_iret hx hb hr hlocks hK hS h ddX4_problemOfGuard_26
    · replace h := h.2 c6
      refine lv_iconst (v := (3 : Int32)) hx hb ddX4_problemOfGuard_21 (by decide) ?_
      refine lv_goto (tgt := 26) hx hb ddX4_problemOfGuard_22 (by decide) ?_
      exact k_iret hx hb hr hlocks hK hS h ddX4_problemOfGuard_26
  · replace h := h.2 c3
    refine lv_iconst (v := (2 : Int32)) hx hb ddX4_problemOfGuard_7 (by decide) ?_
    exact k_iret hx hb hr hlocks hK hS h ddX4_problemOfGuard_8

set_option maxHeartbeats 4000000 in
set_option maxRecDepth 100000 in
theorem c_X4_keepRefusal (l : Launch) (X : GX) {x1 x2 : Int32} {σ : Mem} {K : Mem → Prop} (h : wp_X4_keepRefusal x1 x2 σ K) : MV l X yX4_keepRefusal cX4_keepRefusal 3 ((Option.none : Option Jvm.ClassFile.FieldType)) ({ frames := 0, cells := 0, slots := 0, locals := 0 } : Room) [.ref (ga X 0), .int x1, .int x2] σ K := by
  refine ent_met (QQ := fun A => va_Qv K (BW X A) A) (by decide) (Nat.le_of_ble_eq_true rfl) ?_
  intro p e s m args below meth c A ls hx hb hr hlocks hml hown ht hK hZ hA hS hl
  have hown : s.vm.findClass "GuardRoster" = some m.cls := hown
  have hl : lv_has ls 3 [(0, .ref (ga X 0)), (1, .int x1), (2, .int x2)] := hl
  unfold wp_X4_keepRefusal at h
  refine lv_aload_n hx hb ddX4_keepRefusal_0 rfl (lv_at hl 0 rfl) ?_
  refine lv_iload_n hx hb ddX4_keepRefusal_1 rfl (lv_at hl 1 rfl) ?_
  refine put_0_8 hx hb hown ht hK hS lk117 ddX4_keepRefusal_2 (fun H locs hS => ?_)
  obtain ⟨σ1, eσ1⟩ : ∃ y : Mem, y = (st σ 0 8 x1) := ⟨_, rfl⟩
  rw [← eσ1] at hS
  replace h := h σ1 eσ1
  refine lv_aload_n hx hb ddX4_keepRefusal_5 rfl (lv_at hl 0 rfl) ?_
  refine lv_iload_n hx hb ddX4_keepRefusal_6 rfl (lv_at hl 2 rfl) ?_
  refine put_0_9 hx hb hown ht hK hS lk118 ddX4_keepRefusal_7 (fun H locs hS => ?_)
  obtain ⟨σ2, eσ2⟩ : ∃ y : Mem, y = (st σ1 0 9 x2) := ⟨_, rfl⟩
  rw [← eσ2] at hS
  replace h := h σ2 eσ2
  exact k_vret hx hb hr hlocks hK hS h ddX4_keepRefusal_10

set_option maxHeartbeats 4000000 in
set_option maxRecDepth 100000 in
theorem c_X4_isRefused (l : Launch) (X : GX) {x1 x2 x3 : Int32} {σ : Mem} {K : Int32 → Mem → Prop} (h : wp_X4_isRefused x1 x2 x3 σ K) : MI l X yX4_isRefused cX4_isRefused 5 ((Option.some Jvm.ClassFile.FieldType.boolean)) ({ frames := 3, cells := 0, slots := 0, locals := 67 } : Room) [.ref (ga X 0), .int x1, .int x2, .int x3] σ K := by
  refine ent_met (QQ := fun A => va_Qi K (BW X A) A) (by decide) (Nat.le_of_ble_eq_true rfl) ?_
  intro p e s m args below meth c A ls hx hb hr hlocks hml hown ht hK hZ hA hS hl
  have hown : s.vm.findClass "GuardRoster" = some m.cls := hown
  have hl : lv_has ls 5 [(0, .ref (ga X 0)), (1, .int x1), (2, .int x2), (3, .int x3)] := hl
  unfold wp_X4_isRefused at h
  refine lv_aload_n hx hb ddX4_isRefused_0 rfl (lv_at hl 0 rfl) ?_
  refine get_0_0 hx hb hown ht hK hS lk109 ddX4_isRefused_1 ?_
  refine lv_iload_n hx hb ddX4_isRefused_4 rfl (lv_at hl 1 rfl) ?_
  refine lv_iload_n hx hb ddX4_isRefused_5 rfl (lv_at hl 2 rfl) ?_
  refine lv_iload_n hx hb ddX4_isRefused_6 rfl (lv_at hl 3 rfl) ?_
  refine k_VI (As := [.int x1, .int x2, .int x3]) (rest := []) (c_X2_reasonAgainst l X h) mf_X2_reasonAgainst lk590 hx hb hml hown ht hK hZ hS hA 1 1 rfl rfl rfl ⟨rfl, rfl⟩ ⟨Nat.le_of_ble_eq_true rfl, Nat.le_of_ble_eq_true rfl⟩ rfl hl.1 rfl (Nat.le_of_ble_eq_true rfl) ⟨Nat.le_of_ble_eq_true rfl, Nat.le_of_ble_eq_true rfl⟩ ddX4_isRefused_7 (fun r2 σ1 H locs hS h => ?_)
  refine lv_istore (lv' := [(4, .int r2), (0, .ref (ga X 0)), (1, .int x1), (2, .int x2), (3, .int x3)]) hx hb ddX4_isRefused_10 hl (by decide) rfl (fun ls hl => ?_)
  refine lv_iload hx hb ddX4_isRefused_12 (lv_at hl 0 rfl) ?_
  refine lv_if_ne (tgt := 19) hx hb ddX4_isRefused_14 (by decide) (fun c3 => ?_) (fun c3 => ?_)
  · replace h := h.1 c3
    refine lv_aload_n hx hb ddX4_isRefused_19 rfl (lv_at hl 1 rfl) ?_
    refine lv_iload hx hb ddX4_isRefused_20 (lv_at hl 0 rfl) ?_
    refine lv_aload_n hx hb ddX4_isRefused_22 rfl (lv_at hl 1 rfl) ?_
    refine get_0_0 hx hb hown ht hK hS lk109 ddX4_isRefused_23 ?_
    refine lv_iload hx hb ddX4_isRefused_26 (lv_at hl 0 rfl) ?_
    refine lv_iload_n hx hb ddX4_isRefused_28 rfl (lv_at hl 2 rfl) ?_
    refine lv_iload_n hx hb ddX4_isRefused_29 rfl (lv_at hl 3 rfl) ?_
    refine lv_iload_n hx hb ddX4_isRefused_30 rfl (lv_at hl 4 rfl) ?_
    refine k_VI (As := [.int r2, .int x1, .int x2, .int x3]) (rest := [.int r2, .ref (ga X 0)]) (c_X2_detailOf l X h) mf_X2_detailOf lk591 hx hb hml hown ht hK hZ hS hA 1 1 rfl rfl rfl ⟨rfl, rfl⟩ ⟨Nat.le_of_ble_eq_true rfl, Nat.le_of_ble_eq_true rfl⟩ rfl hl.1 rfl (Nat.le_of_ble_eq_true rfl) ⟨Nat.le_of_ble_eq_true rfl, Nat.le_of_ble_eq_true rfl⟩ ddX4_isRefused_31 (fun r5 σ4 H locs hS h => ?_)
    refine k_VV (As := [.int r2, .int r5]) (rest := []) (c_X4_keepRefusal l X h) mf_X4_keepRefusal lk595 hx hb hml hown ht hK hZ hS hA 0 0 rfl rfl rfl ⟨rfl, rfl⟩ ⟨Nat.le_of_ble_eq_true rfl, Nat.le_of_ble_eq_true rfl⟩ rfl hl.1 rfl (Nat.le_of_ble_eq_true rfl) ⟨Nat.le_of_ble_eq_true rfl, Nat.le_of_ble_eq_true rfl⟩ ddX4_isRefused_34 (fun σ6 H locs hS h => ?_)
    refine lv_iconst (v := (1 : Int32)) hx hb ddX4_isRefused_37 (by decide) ?_
    exact k_zret hx hb hr hlocks hK hS rfl h ddX4_isRefused_38
  · replace h := h.2 c3
    refine lv_iconst (v := (0 : Int32)) hx hb ddX4_isRefused_17 (by decide) ?_
    exact k_zret hx hb hr hlocks hK hS rfl h ddX4_isRefused_18

set_option maxHeartbeats 4000000 in
set_option maxRecDepth 100000 in
theorem c_X4_problemOfDuty (l : Launch) (X : GX) {x1 x2 x3 : Int32} {σ : Mem} {K : Int32 → Mem → Prop} (h : wp_X4_problemOfDuty x1 x2 x3 σ K) : MI l X yX4_problemOfDuty cX4_problemOfDuty 4 ((Option.some Jvm.ClassFile.FieldType.int)) ({ frames := 4, cells := 0, slots := 0, locals := 91 } : Room) [.ref (ga X 0), .int x1, .int x2, .int x3] σ K := by
  refine ent_met (QQ := fun A => va_Qi K (BW X A) A) (by decide) (Nat.le_of_ble_eq_true rfl) ?_
  intro p e s m args below meth c A ls hx hb hr hlocks hml hown ht hK hZ hA hS hl
  have hown : s.vm.findClass "GuardRoster" = some m.cls := hown
  have hl : lv_has ls 4 [(0, .ref (ga X 0)), (1, .int x1), (2, .int x2), (3, .int x3)] := hl
  unfold wp_X4_problemOfDuty at h
  refine lv_aload_n hx hb ddX4_problemOfDuty_0 rfl (lv_at hl 0 rfl) ?_
  refine get_0_0 hx hb hown ht hK hS lk109 ddX4_problemOfDuty_1 ?_
  refine lv_iload_n hx hb ddX4_problemOfDuty_4 rfl (lv_at hl 1 rfl) ?_
  refine k_VI (As := [.int x1]) (rest := []) (c_X2_isGate l X h) mf_X2_isGate lk542 hx hb hml hown ht hK hZ hS hA 1 1 rfl rfl rfl ⟨rfl, rfl⟩ ⟨Nat.le_of_ble_eq_true rfl, Nat.le_of_ble_eq_true rfl⟩ rfl hl.1 rfl (Nat.le_of_ble_eq_true rfl) ⟨Nat.le_of_ble_eq_true rfl, Nat.le_of_ble_eq_true rfl⟩ ddX4_problemOfDuty_5 (fun r2 σ1 H locs hS h => ?_)
  refine lv_if_eq (tgt := 33) hx hb ddX4_problemOfDuty_8 (by decide) (fun c3 => ?_) (fun c3 => ?_)
  · replace h := h.1 c3
    refine lv_iconst (v := (1 : Int32)) hx hb ddX4_problemOfDuty_33 (by decide) ?_
    exact k_iret hx hb hr hlocks hK hS h ddX4_problemOfDuty_34
  · replace h := h.2 c3
    refine lv_aload_n hx hb ddX4_problemOfDuty_11 rfl (lv_at hl 0 rfl) ?_
    refine get_0_0 hx hb hown ht hK hS lk109 ddX4_problemOfDuty_12 ?_
    refine lv_iload_n hx hb ddX4_problemOfDuty_15 rfl (lv_at hl 2 rfl) ?_
    refine k_VI (As := [.int x2]) (rest := []) (c_X2_isSlot l X h) mf_X2_isSlot lk239 hx hb hml hown ht hK hZ hS hA 1 1 rfl rfl rfl ⟨rfl, rfl⟩ ⟨Nat.le_of_ble_eq_true rfl, Nat.le_of_ble_eq_true rfl⟩ rfl hl.1 rfl (Nat.le_of_ble_eq_true rfl) ⟨Nat.le_of_ble_eq_true rfl, Nat.le_of_ble_eq_true rfl⟩ ddX4_problemOfDuty_16 (fun r5 σ4 H locs hS h => ?_)
    refine lv_if_eq (tgt := 33) hx hb ddX4_problemOfDuty_19 (by decide) (fun c6 => ?_) (fun c6 => ?_)
    · replace h := h.1 c6
      refine lv_iconst (v := (1 : Int32)) hx hb ddX4_problemOfDuty_33 (by decide) ?_
      exact k_iret hx hb hr hlocks hK hS h ddX4_problemOfDuty_34
    · replace h := h.2 c6
      refine lv_aload_n hx hb ddX4_problemOfDuty_22 rfl (lv_at hl 0 rfl) ?_
      refine get_0_0 hx hb hown ht hK hS lk109 ddX4_problemOfDuty_23 ?_
      refine lv_iload_n hx hb ddX4_problemOfDuty_26 rfl (lv_at hl 3 rfl) ?_
      refine k_VI (As := [.int x3]) (rest := []) (c_X2_isGuard l X h) mf_X2_isGuard lk556 hx hb hml hown ht hK hZ hS hA 1 1 rfl rfl rfl ⟨rfl, rfl⟩ ⟨Nat.le_of_ble_eq_true rfl, Nat.le_of_ble_eq_true rfl⟩ rfl hl.1 rfl (Nat.le_of_ble_eq_true rfl) ⟨Nat.le_of_ble_eq_true rfl, Nat.le_of_ble_eq_true rfl⟩ ddX4_problemOfDuty_27 (fun r8 σ7 H locs hS h => ?_)
      refine lv_if_ne (tgt := 35) hx hb ddX4_problemOfDuty_30 (by decide) (fun c9 => ?_) (fun c9 => ?_)
      · replace h := h.1 c9
        refine lv_aload_n hx hb ddX4_problemOfDuty_35 rfl (lv_at hl 0 rfl) ?_
        refine get_0_0 hx hb hown ht hK hS lk109 ddX4_problemOfDuty_36 ?_
        refine lv_iload_n hx hb ddX4_problemOfDuty_39 rfl (lv_at hl 2 rfl) ?_
        refine k_VI (As := [.int x2]) (rest := []) (c_X2_hasPassed l X h) mf_X2_hasPassed lk582 hx hb hml hown ht hK hZ hS hA 1 1 rfl rfl rfl ⟨rfl, rfl⟩ ⟨Nat.le_of_ble_eq_true rfl, Nat.le_of_ble_eq_true rfl⟩ rfl hl.1 rfl (Nat.le_of_ble_eq_true rfl) ⟨Nat.le_of_ble_eq_true rfl, Nat.le_of_ble_eq_true rfl⟩ ddX4_problemOfDuty_40 (fun r11 σ10 H locs hS h => ?_)
        refine lv_if_eq (tgt := 48) hx hb ddX4_problemOfDuty_43 (by decide) (fun c12 => ?_) (fun c12 => ?_)
        · replace h := h.1 c12
          refine lv_aload_n hx hb ddX4_problemOfDuty_48 rfl (lv_at hl 0 rfl) ?_
          refine lv_iload_n hx hb ddX4_problemOfDuty_49 rfl (lv_at hl 1 rfl) ?_
          refine lv_iload_n hx hb ddX4_problemOfDuty_50 rfl (lv_at hl 2 rfl) ?_
          refine lv_iload_n hx hb ddX4_problemOfDuty_51 rfl (lv_at hl 3 rfl) ?_
          refine k_VI (As := [.int x1, .int x2, .int x3]) (rest := []) (c_X4_isRefused l X h) mf_X4_isRefused lk586 hx hb hml hown ht hK hZ hS hA 0 0 rfl rfl rfl ⟨rfl, rfl⟩ ⟨Nat.le_of_ble_eq_true rfl, Nat.le_of_ble_eq_true rfl⟩ rfl hl.1 rfl (Nat.le_of_ble_eq_true rfl) ⟨Nat.le_of_ble_eq_true rfl, Nat.le_of_ble_eq_true rfl⟩ ddX4_problemOfDuty_52 (fun r14 σ13 H locs hS h => ?_)
          refine lv_if_eq (tgt := 62) hx hb ddX4_problemOfDuty_55 (by decide) (fun c15 => ?_) (fun c15 => ?_)
          · replace h := h.1 c15
            refine lv_iconst (v := (0 : Int32)) hx hb ddX4_problemOfDuty_62 (by decide) ?_
            exact k_iret hx hb hr hlocks hK hS h ddX4_problemOfDuty_63
          · replace h := h.2 c15
            refine lv_iconst (v := (5 : Int32)) hx hb ddX4_problemOfDuty_58 (by decide) ?_
            refine lv_goto (tgt := 63) hx hb ddX4_problemOfDuty_59 (by decide) ?_
            exact k_iret hx hb hr hlocks hK hS h ddX4_problemOfDuty_63
        · replace h := h.2 c12
          refine lv_iconst (v := (3 : Int32)) hx hb ddX4_problemOfDuty_46 (by decide) ?_
          exact k_iret hx hb hr hlocks hK hS h ddX4_problemOfDuty_47
      · replace h := h.2 c9
        refine lv_iconst (v := (1 : Int32)) hx hb ddX4_problemOfDuty_33 (by decide) ?_
        exact k_iret hx hb hr hlocks hK hS h ddX4_problemOfDuty_34

set_option maxHeartbeats 4000000 in
set_option maxRecDepth 100000 in
theorem c_X4_problemOfFreeing (l : Launch) (X : GX) {x1 x2 : Int32} {σ : Mem} {K : Int32 → Mem → Prop} (h : wp_X4_problemOfFreeing x1 x2 σ K) : MI l X yX4_problemOfFreeing cX4_problemOfFreeing 3 ((Option.some Jvm.ClassFile.FieldType.int)) ({ frames := 2, cells := 0, slots := 0, locals := 43 } : Room) [.ref (ga X 0), .int x1, .int x2] σ K := by
  refine ent_met (QQ := fun A => va_Qi K (BW X A) A) (by decide) (Nat.le_of_ble_eq_true rfl) ?_
  intro p e s m args below meth c A ls hx hb hr hlocks hml hown ht hK hZ hA hS hl
  have hown : s.vm.findClass "GuardRoster" = some m.cls := hown
  have hl : lv_has ls 3 [(0, .ref (ga X 0)), (1, .int x1), (2, .int x2)] := hl
  unfold wp_X4_problemOfFreeing at h
  refine lv_aload_n hx hb ddX4_problemOfFreeing_0 rfl (lv_at hl 0 rfl) ?_
  refine get_0_0 hx hb hown ht hK hS lk109 ddX4_problemOfFreeing_1 ?_
  refine lv_iload_n hx hb ddX4_problemOfFreeing_4 rfl (lv_at hl 1 rfl) ?_
  refine k_VI (As := [.int x1]) (rest := []) (c_X2_isGate l X h) mf_X2_isGate lk542 hx hb hml hown ht hK hZ hS hA 1 1 rfl rfl rfl ⟨rfl, rfl⟩ ⟨Nat.le_of_ble_eq_true rfl, Nat.le_of_ble_eq_true rfl⟩ rfl hl.1 rfl (Nat.le_of_ble_eq_true rfl) ⟨Nat.le_of_ble_eq_true rfl, Nat.le_of_ble_eq_true rfl⟩ ddX4_problemOfFreeing_5 (fun r2 σ1 H locs hS h => ?_)
  refine lv_if_eq (tgt := 22) hx hb ddX4_problemOfFreeing_8 (by decide) (fun c3 => ?_) (fun c3 => ?_)
  · replace h := h.1 c3
    refine lv_iconst (v := (1 : Int32)) hx hb ddX4_problemOfFreeing_22 (by decide) ?_
    exact k_iret hx hb hr hlocks hK hS h ddX4_problemOfFreeing_23
  · replace h := h.2 c3
    refine lv_aload_n hx hb ddX4_problemOfFreeing_11 rfl (lv_at hl 0 rfl) ?_
    refine get_0_0 hx hb hown ht hK hS lk109 ddX4_problemOfFreeing_12 ?_
    refine lv_iload_n hx hb ddX4_problemOfFreeing_15 rfl (lv_at hl 2 rfl) ?_
    refine k_VI (As := [.int x2]) (rest := []) (c_X2_isSlot l X h) mf_X2_isSlot lk239 hx hb hml hown ht hK hZ hS hA 1 1 rfl rfl rfl ⟨rfl, rfl⟩ ⟨Nat.le_of_ble_eq_true rfl, Nat.le_of_ble_eq_true rfl⟩ rfl hl.1 rfl (Nat.le_of_ble_eq_true rfl) ⟨Nat.le_of_ble_eq_true rfl, Nat.le_of_ble_eq_true rfl⟩ ddX4_problemOfFreeing_16 (fun r5 σ4 H locs hS h => ?_)
    refine lv_if_ne (tgt := 24) hx hb ddX4_problemOfFreeing_19 (by decide) (fun c6 => ?_) (fun c6 => ?_)
    · replace h := h.1 c6
      refine lv_aload_n hx hb ddX4_problemOfFreeing_24 rfl (lv_at hl 0 rfl) ?_
      refine get_0_0 hx hb hown ht hK hS lk109 ddX4_problemOfFreeing_25 ?_
      refine lv_iload_n hx hb ddX4_problemOfFreeing_28 rfl (lv_at hl 2 rfl) ?_
      refine k_VI (As := [.int x2]) (rest := []) (c_X2_hasPassed l X h) mf_X2_hasPassed lk582 hx hb hml hown ht hK hZ hS hA 1 1 rfl rfl rfl ⟨rfl, rfl⟩ ⟨Nat.le_of_ble_eq_true rfl, Nat.le_of_ble_eq_true rfl⟩ rfl hl.1 rfl (Nat.le_of_ble_eq_true rfl) ⟨Nat.le_of_ble_eq_true rfl, Nat.le_of_ble_eq_true rfl⟩ ddX4_problemOfFreeing_29 (fun r8 σ7 H locs hS h => ?_)
      refine lv_if_eq (tgt := 37) hx hb ddX4_problemOfFreeing_32 (by decide) (fun c9 => ?_) (fun c9 => ?_)
      · replace h := h.1 c9
        refine lv_aload_n hx hb ddX4_problemOfFreeing_37 rfl (lv_at hl 0 rfl) ?_
        refine get_0_0 hx hb hown ht hK hS lk109 ddX4_problemOfFreeing_38 ?_
        refine lv_iload_n hx hb ddX4_problemOfFreeing_41 rfl (lv_at hl 1 rfl) ?_
        refine lv_iload_n hx hb ddX4_problemOfFreeing_42 rfl (lv_at hl 2 rfl) ?_
        refine k_VI (As := [.int x1, .int x2]) (rest := []) (c_X2_guardOn l X h) mf_X2_guardOn lk626 hx hb hml hown ht hK hZ hS hA 1 1 rfl rfl rfl ⟨rfl, rfl⟩ ⟨Nat.le_of_ble_eq_true rfl, Nat.le_of_ble_eq_true rfl⟩ rfl hl.1 rfl (Nat.le_of_ble_eq_true rfl) ⟨Nat.le_of_ble_eq_true rfl, Nat.le_of_ble_eq_true rfl⟩ ddX4_problemOfFreeing_43 (fun r11 σ10 H locs hS h => ?_)
        refine lv_iconst (v := (-1 : Int32)) hx hb ddX4_problemOfFreeing_46 (by decide) ?_
        refine lv_icmp_ne (tgt := 54) hx hb ddX4_problemOfFreeing_47 (by decide) (fun c12 => ?_) (fun c12 => ?_)
        · replace h := h.1 c12
          refine lv_iconst (v := (0 : Int32)) hx hb ddX4_problemOfFreeing_54 (by decide) ?_
          exact k_iret hx hb hr hlocks hK hS h ddX4_problemOfFreeing_55
        · replace h := h.2 c12
          refine lv_iconst (v := (4 : Int32)) hx hb ddX4_problemOfFreeing_50 (by decide) ?_
          refine lv_goto (tgt := 55) hx hb ddX4_problemOfFreeing_51 (by decide) ?_
          exact k_iret hx hb hr hlocks hK hS h ddX4_problemOfFreeing_55
      · replace h := h.2 c9
        refine lv_iconst (v := (3 : Int32)) hx hb ddX4_problemOfFreeing_35 (by decide) ?_
        exact k_iret hx hb hr hlocks hK hS h ddX4_problemOfFreeing_36
    · replace h := h.2 c6
      refine lv_iconst (v := (1 : Int32)) hx hb ddX4_problemOfFreeing_22 (by decide) ?_
      exact k_iret hx hb hr hlocks hK hS h ddX4_problemOfFreeing_23

set_option maxHeartbeats 4000000 in
set_option maxRecDepth 100000 in
theorem c_X4_isExchangeRefused (l : Launch) (X : GX) {x1 x2 x3 x4 : Int32} {σ : Mem} {K : Int32 → Mem → Prop} (h : wp_X4_isExchangeRefused x1 x2 x3 x4 σ K) : MI l X yX4_isExchangeRefused cX4_isExchangeRefused 8 ((Option.some Jvm.ClassFile.FieldType.boolean)) ({ frames := 4, cells := 0, slots := 0, locals := 91 } : Room) [.ref (ga X 0), .int x1, .int x2, .int x3, .int x4] σ K := by
  refine ent_met (QQ := fun A => va_Qi K (BW X A) A) (by decide) (Nat.le_of_ble_eq_true rfl) ?_
  intro p e s m args below meth c A ls hx hb hr hlocks hml hown ht hK hZ hA hS hl
  have hown : s.vm.findClass "GuardRoster" = some m.cls := hown
  have hl : lv_has ls 8 [(0, .ref (ga X 0)), (1, .int x1), (2, .int x2), (3, .int x3), (4, .int x4)] := hl
  have hJ81 : ∀ (x1 x2 x3 x4 x5 x6 x7 : Int32) (σ : Mem) (H : Heap) (locs : List Loc) (ls : Array Slot), WS X A s.heap σ H locs → lv_has ls 8 [(0, .ref (ga X 0)), (1, .int x1), (2, .int x2), (3, .int x3), (4, .int x4), (5, .int x5), (6, .int x6), (7, .int x7)] → wpJ_X4_isExchangeRefused_81 K x1 x2 x3 x4 x5 x6 x7 σ → WI X K p l e ({ frames := 4, cells := 0, slots := 0, locals := 91 } : Room) s m args below meth c A H locs (F0 m 81 ls []) := by
    intro x1 x2 x3 x4 x5 x6 x7 σ H locs ls hS hl h
    unfold wpJ_X4_isExchangeRefused_81 at h
    refine lv_aload_n hx hb ddX4_isExchangeRefused_81 rfl (lv_at hl 0 rfl) ?_
    refine get_0_0 hx hb hown ht hK hS lk109 ddX4_isExchangeRefused_82 ?_
    refine lv_iload_n hx hb ddX4_isExchangeRefused_85 rfl (lv_at hl 1 rfl) ?_
    refine lv_iload_n hx hb ddX4_isExchangeRefused_86 rfl (lv_at hl 2 rfl) ?_
    refine lv_iload hx hb ddX4_isExchangeRefused_87 (lv_at hl 5 rfl) ?_
    refine k_VV (As := [.int x1, .int x2, .int x5]) (rest := []) (c_X2_setDuty l X h) mf_X2_setDuty lk599 hx hb hml hown ht hK hZ hS hA 1 1 rfl rfl rfl ⟨rfl, rfl⟩ ⟨Nat.le_of_ble_eq_true rfl, Nat.le_of_ble_eq_true rfl⟩ rfl hl.1 rfl (Nat.le_of_ble_eq_true rfl) ⟨Nat.le_of_ble_eq_true rfl, Nat.le_of_ble_eq_true rfl⟩ ddX4_isExchangeRefused_89 (fun σ10 H locs hS h => ?_)
    refine lv_aload_n hx hb ddX4_isExchangeRefused_92 rfl (lv_at hl 0 rfl) ?_
    refine get_0_0 hx hb hown ht hK hS lk109 ddX4_isExchangeRefused_93 ?_
    refine lv_iload_n hx hb ddX4_isExchangeRefused_96 rfl (lv_at hl 3 rfl) ?_
    refine lv_iload hx hb ddX4_isExchangeRefused_97 (lv_at hl 4 rfl) ?_
    refine lv_iload hx hb ddX4_isExchangeRefused_99 (lv_at hl 6 rfl) ?_
    refine k_VV (As := [.int x3, .int x4, .int x6]) (rest := []) (c_X2_setDuty l X h) mf_X2_setDuty lk599 hx hb hml hown ht hK hZ hS hA 1 1 rfl rfl rfl ⟨rfl, rfl⟩ ⟨Nat.le_of_ble_eq_true rfl, Nat.le_of_ble_eq_true rfl⟩ rfl hl.1 rfl (Nat.le_of_ble_eq_true rfl) ⟨Nat.le_of_ble_eq_true rfl, Nat.le_of_ble_eq_true rfl⟩ ddX4_isExchangeRefused_101 (fun σ11 H locs hS h => ?_)
    refine lv_iload hx hb ddX4_isExchangeRefused_104 (lv_at hl 7 rfl) ?_
    exact k_zret hx hb hr hlocks hK hS h.1 h.2 ddX4_isExchangeRefused_106
  unfold wp_X4_isExchangeRefused at h
  refine lv_aload_n hx hb ddX4_isExchangeRefused_0 rfl (lv_at hl 0 rfl) ?_
  refine get_0_0 hx hb hown ht hK hS lk109 ddX4_isExchangeRefused_1 ?_
  refine lv_iload_n hx hb ddX4_isExchangeRefused_4 rfl (lv_at hl 1 rfl) ?_
  refine lv_iload_n hx hb ddX4_isExchangeRefused_5 rfl (lv_at hl 2 rfl) ?_
  refine k_VI (As := [.int x1, .int x2]) (rest := []) (c_X2_guardOn l X h) mf_X2_guardOn lk626 hx hb hml hown ht hK hZ hS hA 1 1 rfl rfl rfl ⟨rfl, rfl⟩ ⟨Nat.le_of_ble_eq_true rfl, Nat.le_of_ble_eq_true rfl⟩ rfl hl.1 rfl (Nat.le_of_ble_eq_true rfl) ⟨Nat.le_of_ble_eq_true rfl, Nat.le_of_ble_eq_true rfl⟩ ddX4_isExchangeRefused_6 (fun r2 σ1 H locs hS h => ?_)
  refine lv_istore (lv' := [(5, .int r2), (0, .ref (ga X 0)), (1, .int x1), (2, .int x2), (3, .int x3), (4, .int x4)]) hx hb ddX4_isExchangeRefused_9 hl (by decide) rfl (fun ls hl => ?_)
  refine lv_aload_n hx hb ddX4_isExchangeRefused_11 rfl (lv_at hl 1 rfl) ?_
  refine get_0_0 hx hb hown ht hK hS lk109 ddX4_isExchangeRefused_12 ?_
  refine lv_iload_n hx hb ddX4_isExchangeRefused_15 rfl (lv_at hl 4 rfl) ?_
  refine lv_iload hx hb ddX4_isExchangeRefused_16 (lv_at hl 5 rfl) ?_
  refine k_VI (As := [.int x3, .int x4]) (rest := []) (c_X2_guardOn l X h) mf_X2_guardOn lk626 hx hb hml hown ht hK hZ hS hA 1 1 rfl rfl rfl ⟨rfl, rfl⟩ ⟨Nat.le_of_ble_eq_true rfl, Nat.le_of_ble_eq_true rfl⟩ rfl hl.1 rfl (Nat.le_of_ble_eq_true rfl) ⟨Nat.le_of_ble_eq_true rfl, Nat.le_of_ble_eq_true rfl⟩ ddX4_isExchangeRefused_18 (fun r4 σ3 H locs hS h => ?_)
  refine lv_istore (lv' := [(6, .int r4), (5, .int r2), (0, .ref (ga X 0)), (1, .int x1), (2, .int x2), (3, .int x3), (4, .int x4)]) hx hb ddX4_isExchangeRefused_21 hl (by decide) rfl (fun ls hl => ?_)
  refine lv_aload_n hx hb ddX4_isExchangeRefused_23 rfl (lv_at hl 2 rfl) ?_
  refine get_0_0 hx hb hown ht hK hS lk109 ddX4_isExchangeRefused_24 ?_
  refine lv_iload_n hx hb ddX4_isExchangeRefused_27 rfl (lv_at hl 3 rfl) ?_
  refine lv_iload_n hx hb ddX4_isExchangeRefused_28 rfl (lv_at hl 4 rfl) ?_
  refine lv_iconst (v := (-1 : Int32)) hx hb ddX4_isExchangeRefused_29 (by decide) ?_
  refine k_VV (As := [.int x1, .int x2, .int (-1 : Int32)]) (rest := []) (c_X2_setDuty l X h) mf_X2_setDuty lk599 hx hb hml hown ht hK hZ hS hA 1 1 rfl rfl rfl ⟨rfl, rfl⟩ ⟨Nat.le_of_ble_eq_true rfl, Nat.le_of_ble_eq_true rfl⟩ rfl hl.1 rfl (Nat.le_of_ble_eq_true rfl) ⟨Nat.le_of_ble_eq_true rfl, Nat.le_of_ble_eq_true rfl⟩ ddX4_isExchangeRefused_30 (fun σ5 H locs hS h => ?_)
  refine lv_aload_n hx hb ddX4_isExchangeRefused_33 rfl (lv_at hl 2 rfl) ?_
  refine get_0_0 hx hb hown ht hK hS lk109 ddX4_isExchangeRefused_34 ?_
  refine lv_iload_n hx hb ddX4_isExchangeRefused_37 rfl (lv_at hl 5 rfl) ?_
  refine lv_iload hx hb ddX4_isExchangeRefused_38 (lv_at hl 6 rfl) ?_
  refine lv_iconst (v := (-1 : Int32)) hx hb ddX4_isExchangeRefused_40 (by decide) ?_
  refine k_VV (As := [.int x3, .int x4, .int (-1 : Int32)]) (rest := []) (c_X2_setDuty l X h) mf_X2_setDuty lk599 hx hb hml hown ht hK hZ hS hA 1 1 rfl rfl rfl ⟨rfl, rfl⟩ ⟨Nat.le_of_ble_eq_true rfl, Nat.le_of_ble_eq_true rfl⟩ rfl hl.1 rfl (Nat.le_of_ble_eq_true rfl) ⟨Nat.le_of_ble_eq_true rfl, Nat.le_of_ble_eq_true rfl⟩ ddX4_isExchangeRefused_41 (fun σ6 H locs hS h => ?_)
  refine lv_aload_n hx hb ddX4_isExchangeRefused_44 rfl (lv_at hl 2 rfl) ?_
  refine lv_iload_n hx hb ddX4_isExchangeRefused_45 rfl (lv_at hl 3 rfl) ?_
  refine lv_iload_n hx hb ddX4_isExchangeRefused_46 rfl (lv_at hl 4 rfl) ?_
  refine lv_iload hx hb ddX4_isExchangeRefused_47 (lv_at hl 0 rfl) ?_
  refine k_VI (As := [.int x1, .int x2, .int r4]) (rest := []) (c_X4_isRefused l X h) mf_X4_isRefused lk586 hx hb hml hown ht hK hZ hS hA 0 0 rfl rfl rfl ⟨rfl, rfl⟩ ⟨Nat.le_of_ble_eq_true rfl, Nat.le_of_ble_eq_true rfl⟩ rfl hl.1 rfl (Nat.le_of_ble_eq_true rfl) ⟨Nat.le_of_ble_eq_true rfl, Nat.le_of_ble_eq_true rfl⟩ ddX4_isExchangeRefused_49 (fun r8 σ7 H locs hS h => ?_)
  refine lv_istore (lv' := [(7, .int r8), (6, .int r4), (5, .int r2), (0, .ref (ga X 0)), (1, .int x1), (2, .int x2), (3, .int x3), (4, .int x4)]) hx hb ddX4_isExchangeRefused_52 hl (by decide) rfl (fun ls hl => ?_)
  refine lv_iload hx hb ddX4_isExchangeRefused_54 (lv_at hl 0 rfl) ?_
  refine lv_if_ne (tgt := 81) hx hb ddX4_isExchangeRefused_56 (by decide) (fun c9 => ?_) (fun c9 => ?_)
  · replace h := h.1 c9
    exact hJ81 _ _ _ _ _ _ _ _ _ _ _ hS (lv_sub hl [3, 4, 5, 6, 7, 2, 1, 0] rfl) h
  · replace h := h.2 c9
    refine lv_aload_n hx hb ddX4_isExchangeRefused_59 rfl (lv_at hl 3 rfl) ?_
    refine get_0_0 hx hb hown ht hK hS lk109 ddX4_isExchangeRefused_60 ?_
    refine lv_iload_n hx hb ddX4_isExchangeRefused_63 rfl (lv_at hl 4 rfl) ?_
    refine lv_iload_n hx hb ddX4_isExchangeRefused_64 rfl (lv_at hl 5 rfl) ?_
    refine lv_iload hx hb ddX4_isExchangeRefused_65 (lv_at hl 1 rfl) ?_
    refine k_VV (As := [.int x1, .int x2, .int r4]) (rest := []) (c_X2_setDuty l X h) mf_X2_setDuty lk599 hx hb hml hown ht hK hZ hS hA 1 1 rfl rfl rfl ⟨rfl, rfl⟩ ⟨Nat.le_of_ble_eq_true rfl, Nat.le_of_ble_eq_true rfl⟩ rfl hl.1 rfl (Nat.le_of_ble_eq_true rfl) ⟨Nat.le_of_ble_eq_true rfl, Nat.le_of_ble_eq_true rfl⟩ ddX4_isExchangeRefused_67 (fun σ12 H locs hS h => ?_)
    refine lv_aload_n hx hb ddX4_isExchangeRefused_70 rfl (lv_at hl 3 rfl) ?_
    refine lv_iload_n hx hb ddX4_isExchangeRefused_71 rfl (lv_at hl 6 rfl) ?_
    refine lv_iload hx hb ddX4_isExchangeRefused_72 (lv_at hl 7 rfl) ?_
    refine lv_iload hx hb ddX4_isExchangeRefused_74 (lv_at hl 2 rfl) ?_
    refine k_VI (As := [.int x3, .int x4, .int r2]) (rest := []) (c_X4_isRefused l X h) mf_X4_isRefused lk586 hx hb hml hown ht hK hZ hS hA 0 0 rfl rfl rfl ⟨rfl, rfl⟩ ⟨Nat.le_of_ble_eq_true rfl, Nat.le_of_ble_eq_true rfl⟩ rfl hl.1 rfl (Nat.le_of_ble_eq_true rfl) ⟨Nat.le_of_ble_eq_true rfl, Nat.le_of_ble_eq_true rfl⟩ ddX4_isExchangeRefused_76 (fun r14 σ13 H locs hS h => ?_)
    refine lv_istore (lv' := [(7, .int r14), (6, .int r4), (5, .int r2), (0, .ref (ga X 0)), (1, .int x1), (2, .int x2), (3, .int x3), (4, .int x4)]) hx hb ddX4_isExchangeRefused_79 hl (by decide) rfl (fun ls hl => ?_)
    exact hJ81 _ _ _ _ _ _ _ _ _ _ _ hS (lv_sub hl [3, 4, 5, 6, 7, 2, 1, 0] rfl) h

set_option maxHeartbeats 4000000 in
set_option maxRecDepth 100000 in
theorem c_X4_problemOfExchange (l : Launch) (X : GX) {x1 x2 x3 x4 : Int32} {σ : Mem} {K : Int32 → Mem → Prop} (h : wp_X4_problemOfExchange x1 x2 x3 x4 σ K) : MI l X yX4_problemOfExchange cX4_problemOfExchange 5 ((Option.some Jvm.ClassFile.FieldType.int)) ({ frames := 5, cells := 0, slots := 0, locals := 118 } : Room) [.ref (ga X 0), .int x1, .int x2, .int x3, .int x4] σ K := by
  refine ent_met (QQ := fun A => va_Qi K (BW X A) A) (by decide) (Nat.le_of_ble_eq_true rfl) ?_
  intro p e s m args below meth c A ls hx hb hr hlocks hml hown ht hK hZ hA hS hl
  have hown : s.vm.findClass "GuardRoster" = some m.cls := hown
  have hl : lv_has ls 5 [(0, .ref (ga X 0)), (1, .int x1), (2, .int x2), (3, .int x3), (4, .int x4)] := hl
  have hJ60 : ∀ (x1 x2 x3 x4 : Int32) (σ : Mem) (H : Heap) (locs : List Loc) (ls : Array Slot), WS X A s.heap σ H locs → lv_has ls 5 [(0, .ref (ga X 0)), (1, .int x1), (2, .int x2), (3, .int x3), (4, .int x4)] → wpJ_X4_problemOfExchange_60 K x1 x2 x3 x4 σ → WI X K p l e ({ frames := 5, cells := 0, slots := 0, locals := 118 } : Room) s m args below meth c A H locs (F0 m 60 ls []) := by
    intro x1 x2 x3 x4 σ H locs ls hS hl h
    unfold wpJ_X4_problemOfExchange_60 at h
    refine lv_aload_n hx hb ddX4_problemOfExchange_60 rfl (lv_at hl 0 rfl) ?_
    refine get_0_0 hx hb hown ht hK hS lk109 ddX4_problemOfExchange_61 ?_
    refine lv_iload_n hx hb ddX4_problemOfExchange_64 rfl (lv_at hl 2 rfl) ?_
    refine k_VI (As := [.int x2]) (rest := []) (c_X2_hasPassed l X h) mf_X2_hasPassed lk582 hx hb hml hown ht hK hZ hS hA 1 1 rfl rfl rfl ⟨rfl, rfl⟩ ⟨Nat.le_of_ble_eq_true rfl, Nat.le_of_ble_eq_true rfl⟩ rfl hl.1 rfl (Nat.le_of_ble_eq_true rfl) ⟨Nat.le_of_ble_eq_true rfl, Nat.le_of_ble_eq_true rfl⟩ ddX4_problemOfExchange_65 (fun r15 σ14 H locs hS h => ?_)
    refine lv_if_ne (tgt := 83) hx hb ddX4_problemOfExchange_68 (by decide) (fun c16 => ?_) (fun c16 => ?_)
    · replace h := h.1 c16
      refine lv_iconst (v := (3 : Int32)) hx hb ddX4_problemOfExchange_83 (by decide) ?_
      exact k_iret hx hb hr hlocks hK hS h ddX4_problemOfExchange_84
    · replace h := h.2 c16
      refine lv_aload_n hx hb ddX4_problemOfExchange_71 rfl (lv_at hl 0 rfl) ?_
      refine get_0_0 hx hb hown ht hK hS lk109 ddX4_problemOfExchange_72 ?_
      refine lv_iload hx hb ddX4_problemOfExchange_75 (lv_at hl 4 rfl) ?_
      refine k_VI (As := [.int x4]) (rest := []) (c_X2_hasPassed l X h) mf_X2_hasPassed lk582 hx hb hml hown ht hK hZ hS hA 1 1 rfl rfl rfl ⟨rfl, rfl⟩ ⟨Nat.le_of_ble_eq_true rfl, Nat.le_of_ble_eq_true rfl⟩ rfl hl.1 rfl (Nat.le_of_ble_eq_true rfl) ⟨Nat.le_of_ble_eq_true rfl, Nat.le_of_ble_eq_true rfl⟩ ddX4_problemOfExchange_77 (fun r18 σ17 H locs hS h => ?_)
      refine lv_if_eq (tgt := 85) hx hb ddX4_problemOfExchange_80 (by decide) (fun c19 => ?_) (fun c19 => ?_)
      · replace h := h.1 c19
        refine lv_aload_n hx hb ddX4_problemOfExchange_85 rfl (lv_at hl 0 rfl) ?_
        refine get_0_0 hx hb hown ht hK hS lk109 ddX4_problemOfExchange_86 ?_
        refine lv_iload_n hx hb ddX4_problemOfExchange_89 rfl (lv_at hl 1 rfl) ?_
        refine lv_iload_n hx hb ddX4_problemOfExchange_90 rfl (lv_at hl 2 rfl) ?_
        refine k_VI (As := [.int x1, .int x2]) (rest := []) (c_X2_guardOn l X h) mf_X2_guardOn lk626 hx hb hml hown ht hK hZ hS hA 1 1 rfl rfl rfl ⟨rfl, rfl⟩ ⟨Nat.le_of_ble_eq_true rfl, Nat.le_of_ble_eq_true rfl⟩ rfl hl.1 rfl (Nat.le_of_ble_eq_true rfl) ⟨Nat.le_of_ble_eq_true rfl, Nat.le_of_ble_eq_true rfl⟩ ddX4_problemOfExchange_91 (fun r21 σ20 H locs hS h => ?_)
        refine lv_iconst (v := (-1 : Int32)) hx hb ddX4_problemOfExchange_94 (by decide) ?_
        refine lv_icmp_eq (tgt := 112) hx hb ddX4_problemOfExchange_95 (by decide) (fun c22 => ?_) (fun c22 => ?_)
        · replace h := h.1 c22
          refine lv_iconst (v := (4 : Int32)) hx hb ddX4_problemOfExchange_112 (by decide) ?_
          exact k_iret hx hb hr hlocks hK hS h ddX4_problemOfExchange_113
        · replace h := h.2 c22
          refine lv_aload_n hx hb ddX4_problemOfExchange_98 rfl (lv_at hl 0 rfl) ?_
          refine get_0_0 hx hb hown ht hK hS lk109 ddX4_problemOfExchange_99 ?_
          refine lv_iload_n hx hb ddX4_problemOfExchange_102 rfl (lv_at hl 3 rfl) ?_
          refine lv_iload hx hb ddX4_problemOfExchange_103 (lv_at hl 4 rfl) ?_
          refine k_VI (As := [.int x3, .int x4]) (rest := []) (c_X2_guardOn l X h) mf_X2_guardOn lk626 hx hb hml hown ht hK hZ hS hA 1 1 rfl rfl rfl ⟨rfl, rfl⟩ ⟨Nat.le_of_ble_eq_true rfl, Nat.le_of_ble_eq_true rfl⟩ rfl hl.1 rfl (Nat.le_of_ble_eq_true rfl) ⟨Nat.le_of_ble_eq_true rfl, Nat.le_of_ble_eq_true rfl⟩ ddX4_problemOfExchange_105 (fun r24 σ23 H locs hS h => ?_)
          refine lv_iconst (v := (-1 : Int32)) hx hb ddX4_problemOfExchange_108 (by decide) ?_
          refine lv_icmp_ne (tgt := 114) hx hb ddX4_problemOfExchange_109 (by decide) (fun c25 => ?_) (fun c25 => ?_)
          · replace h := h.1 c25
            refine lv_aload_n hx hb ddX4_problemOfExchange_114 rfl (lv_at hl 0 rfl) ?_
            refine lv_iload_n hx hb ddX4_problemOfExchange_115 rfl (lv_at hl 1 rfl) ?_
            refine lv_iload_n hx hb ddX4_problemOfExchange_116 rfl (lv_at hl 2 rfl) ?_
            refine lv_iload_n hx hb ddX4_problemOfExchange_117 rfl (lv_at hl 3 rfl) ?_
            refine lv_iload hx hb ddX4_problemOfExchange_118 (lv_at hl 4 rfl) ?_
            refine k_VI (As := [.int x1, .int x2, .int x3, .int x4]) (rest := []) (c_X4_isExchangeRefused l X h) mf_X4_isExchangeRefused lk638 hx hb hml hown ht hK hZ hS hA 0 0 rfl rfl rfl ⟨rfl, rfl⟩ ⟨Nat.le_of_ble_eq_true rfl, Nat.le_of_ble_eq_true rfl⟩ rfl hl.1 rfl (Nat.le_of_ble_eq_true rfl) ⟨Nat.le_of_ble_eq_true rfl, Nat.le_of_ble_eq_true rfl⟩ ddX4_problemOfExchange_120 (fun r27 σ26 H locs hS h => ?_)
            refine lv_if_eq (tgt := 130) hx hb ddX4_problemOfExchange_123 (by decide) (fun c28 => ?_) (fun c28 => ?_)
            · replace h := h.1 c28
              refine lv_iconst (v := (0 : Int32)) hx hb ddX4_problemOfExchange_130 (by decide) ?_
              exact k_iret hx hb hr hlocks hK hS h ddX4_problemOfExchange_131
            · replace h := h.2 c28
              refine lv_iconst (v := (5 : Int32)) hx hb ddX4_problemOfExchange_126 (by decide) ?_
              refine lv_goto (tgt := 131) hx hb ddX4_problemOfExchange_127 (by decide) ?_
              exact k_iret hx hb hr hlocks hK hS h ddX4_problemOfExchange_131
          · replace h := h.2 c25
            refine lv_iconst (v := (4 : Int32)) hx hb ddX4_problemOfExchange_112 (by decide) ?_
            exact k_iret hx hb hr hlocks hK hS h ddX4_problemOfExchange_113
      · replace h := h.2 c19
        refine lv_iconst (v := (3 : Int32)) hx hb ddX4_problemOfExchange_83 (by decide) ?_
        exact k_iret hx hb hr hlocks hK hS h ddX4_problemOfExchange_84
  unfold wp_X4_problemOfExchange at h
  refine lv_aload_n hx hb ddX4_problemOfExchange_0 rfl (lv_at hl 0 rfl) ?_
  refine get_0_0 hx hb hown ht hK hS lk109 ddX4_problemOfExchange_1 ?_
  refine lv_iload_n hx hb ddX4_problemOfExchange_4 rfl (lv_at hl 1 rfl) ?_
  refine k_VI (As := [.int x1]) (rest := []) (c_X2_isGate l X h) mf_X2_isGate lk542 hx hb hml hown ht hK hZ hS hA 1 1 rfl rfl rfl ⟨rfl, rfl⟩ ⟨Nat.le_of_ble_eq_true rfl, Nat.le_of_ble_eq_true rfl⟩ rfl hl.1 rfl (Nat.le_of_ble_eq_true rfl) ⟨Nat.le_of_ble_eq_true rfl, Nat.le_of_ble_eq_true rfl⟩ ddX4_problemOfExchange_5 (fun r2 σ1 H locs hS h => ?_)
  refine lv_if_eq (tgt := 45) hx hb ddX4_problemOfExchange_8 (by decide) (fun c3 => ?_) (fun c3 => ?_)
  · replace h := h.1 c3
    refine lv_iconst (v := (1 : Int32)) hx hb ddX4_problemOfExchange_45 (by decide) ?_
    exact k_iret hx hb hr hlocks hK hS h ddX4_problemOfExchange_46
  · replace h := h.2 c3
    refine lv_aload_n hx hb ddX4_problemOfExchange_11 rfl (lv_at hl 0 rfl) ?_
    refine get_0_0 hx hb hown ht hK hS lk109 ddX4_problemOfExchange_12 ?_
    refine lv_iload_n hx hb ddX4_problemOfExchange_15 rfl (lv_at hl 2 rfl) ?_
    refine k_VI (As := [.int x2]) (rest := []) (c_X2_isSlot l X h) mf_X2_isSlot lk239 hx hb hml hown ht hK hZ hS hA 1 1 rfl rfl rfl ⟨rfl, rfl⟩ ⟨Nat.le_of_ble_eq_true rfl, Nat.le_of_ble_eq_true rfl⟩ rfl hl.1 rfl (Nat.le_of_ble_eq_true rfl) ⟨Nat.le_of_ble_eq_true rfl, Nat.le_of_ble_eq_true rfl⟩ ddX4_problemOfExchange_16 (fun r5 σ4 H locs hS h => ?_)
    refine lv_if_eq (tgt := 45) hx hb ddX4_problemOfExchange_19 (by decide) (fun c6 => ?_) (fun c6 => ?_)
    · replace h := h.1 c6
      refine lv_iconst (v := (1 : Int32)) hx hb ddX4_problemOfExchange_45 (by decide) ?_
      exact k_iret hx hb hr hlocks hK hS h ddX4_problemOfExchange_46
    · replace h := h.2 c6
      refine lv_aload_n hx hb ddX4_problemOfExchange_22 rfl (lv_at hl 0 rfl) ?_
      refine get_0_0 hx hb hown ht hK hS lk109 ddX4_problemOfExchange_23 ?_
      refine lv_iload_n hx hb ddX4_problemOfExchange_26 rfl (lv_at hl 3 rfl) ?_
      refine k_VI (As := [.int x3]) (rest := []) (c_X2_isGate l X h) mf_X2_isGate lk542 hx hb hml hown ht hK hZ hS hA 1 1 rfl rfl rfl ⟨rfl, rfl⟩ ⟨Nat.le_of_ble_eq_true rfl, Nat.le_of_ble_eq_true rfl⟩ rfl hl.1 rfl (Nat.le_of_ble_eq_true rfl) ⟨Nat.le_of_ble_eq_true rfl, Nat.le_of_ble_eq_true rfl⟩ ddX4_problemOfExchange_27 (fun r8 σ7 H locs hS h => ?_)
      refine lv_if_eq (tgt := 45) hx hb ddX4_problemOfExchange_30 (by decide) (fun c9 => ?_) (fun c9 => ?_)
      · replace h := h.1 c9
        refine lv_iconst (v := (1 : Int32)) hx hb ddX4_problemOfExchange_45 (by decide) ?_
        exact k_iret hx hb hr hlocks hK hS h ddX4_problemOfExchange_46
      · replace h := h.2 c9
        refine lv_aload_n hx hb ddX4_problemOfExchange_33 rfl (lv_at hl 0 rfl) ?_
        refine get_0_0 hx hb hown ht hK hS lk109 ddX4_problemOfExchange_34 ?_
        refine lv_iload hx hb ddX4_problemOfExchange_37 (lv_at hl 4 rfl) ?_
        refine k_VI (As := [.int x4]) (rest := []) (c_X2_isSlot l X h) mf_X2_isSlot lk239 hx hb hml hown ht hK hZ hS hA 1 1 rfl rfl rfl ⟨rfl, rfl⟩ ⟨Nat.le_of_ble_eq_true rfl, Nat.le_of_ble_eq_true rfl⟩ rfl hl.1 rfl (Nat.le_of_ble_eq_true rfl) ⟨Nat.le_of_ble_eq_true rfl, Nat.le_of_ble_eq_true rfl⟩ ddX4_problemOfExchange_39 (fun r11 σ10 H locs hS h => ?_)
        refine lv_if_ne (tgt := 47) hx hb ddX4_problemOfExchange_42 (by decide) (fun c12 => ?_) (fun c12 => ?_)
        · replace h := h.1 c12
          refine lv_iload_n hx hb ddX4_problemOfExchange_47 rfl (lv_at hl 1 rfl) ?_
          refine lv_iload_n hx hb ddX4_problemOfExchange_48 rfl (lv_at hl 3 rfl) ?_
          refine lv_icmp_ne (tgt := 60) hx hb ddX4_problemOfExchange_49 (by decide) (fun c13 => ?_) (fun c13 => ?_)
          · replace h := h.1 c13
            exact hJ60 _ _ _ _ _ _ _ _ hS (lv_sub hl [0, 1, 2, 3, 4] rfl) h
          · replace h := h.2 c13
            refine lv_iload_n hx hb ddX4_problemOfExchange_52 rfl (lv_at hl 2 rfl) ?_
            refine lv_iload hx hb ddX4_problemOfExchange_53 (lv_at hl 4 rfl) ?_
            refine lv_icmp_ne (tgt := 60) hx hb ddX4_problemOfExchange_55 (by decide) (fun c29 => ?_) (fun c29 => ?_)
            · replace h := h.1 c29
              exact hJ60 _ _ _ _ _ _ _ _ hS (lv_sub hl [0, 1, 2, 3, 4] rfl) h
            · replace h := h.2 c29
              refine lv_iconst (v := (2 : Int32)) hx hb ddX4_problemOfExchange_58 (by decide) ?_
              exact k_iret hx hb hr hlocks hK hS h ddX4_problemOfExchange_59
        · replace h := h.2 c12
          refine lv_iconst (v := (1 : Int32)) hx hb ddX4_problemOfExchange_45 (by decide) ?_
          exact k_iret hx hb hr hlocks hK hS h ddX4_problemOfExchange_46

set_option maxHeartbeats 4000000 in
set_option maxRecDepth 100000 in
theorem c_X4_problemOfFilling (l : Launch) (X : GX) {x1 : Int32} {σ : Mem} {K : Int32 → Mem → Prop} (h : wp_X4_problemOfFilling x1 σ K) : MI l X yX4_problemOfFilling cX4_problemOfFilling 2 ((Option.some Jvm.ClassFile.FieldType.int)) ({ frames := 1, cells := 0, slots := 0, locals := 21 } : Room) [.ref (ga X 0), .int x1] σ K := by
  refine ent_met (QQ := fun A => va_Qi K (BW X A) A) (by decide) (Nat.le_of_ble_eq_true rfl) ?_
  intro p e s m args below meth c A ls hx hb hr hlocks hml hown ht hK hZ hA hS hl
  have hown : s.vm.findClass "GuardRoster" = some m.cls := hown
  have hl : lv_has ls 2 [(0, .ref (ga X 0)), (1, .int x1)] := hl
  unfold wp_X4_problemOfFilling at h
  refine lv_aload_n hx hb ddX4_problemOfFilling_0 rfl (lv_at hl 0 rfl) ?_
  refine get_0_0 hx hb hown ht hK hS lk109 ddX4_problemOfFilling_1 ?_
  refine lv_iload_n hx hb ddX4_problemOfFilling_4 rfl (lv_at hl 1 rfl) ?_
  refine k_VI (As := [.int x1]) (rest := []) (c_X2_isSlot l X h) mf_X2_isSlot lk239 hx hb hml hown ht hK hZ hS hA 1 1 rfl rfl rfl ⟨rfl, rfl⟩ ⟨Nat.le_of_ble_eq_true rfl, Nat.le_of_ble_eq_true rfl⟩ rfl hl.1 rfl (Nat.le_of_ble_eq_true rfl) ⟨Nat.le_of_ble_eq_true rfl, Nat.le_of_ble_eq_true rfl⟩ ddX4_problemOfFilling_5 (fun r2 σ1 H locs hS h => ?_)
  refine lv_if_ne (tgt := 13) hx hb ddX4_problemOfFilling_8 (by decide) (fun c3 => ?_) (fun c3 => ?_)
  · replace h := h.1 c3
    refine lv_aload_n hx hb ddX4_problemOfFilling_13 rfl (lv_at hl 0 rfl) ?_
    refine get_0_0 hx hb hown ht hK hS lk109 ddX4_problemOfFilling_14 ?_
    refine lv_iload_n hx hb ddX4_problemOfFilling_17 rfl (lv_at hl 1 rfl) ?_
    refine k_VI (As := [.int x1]) (rest := []) (c_X2_hasPassed l X h) mf_X2_hasPassed lk582 hx hb hml hown ht hK hZ hS hA 1 1 rfl rfl rfl ⟨rfl, rfl⟩ ⟨Nat.le_of_ble_eq_true rfl, Nat.le_of_ble_eq_true rfl⟩ rfl hl.1 rfl (Nat.le_of_ble_eq_true rfl) ⟨Nat.le_of_ble_eq_true rfl, Nat.le_of_ble_eq_true rfl⟩ ddX4_problemOfFilling_18 (fun r5 σ4 H locs hS h => ?_)
    refine lv_if_eq (tgt := 28) hx hb ddX4_problemOfFilling_21 (by decide) (fun c6 => ?_) (fun c6 => ?_)
    · replace h := h.1 c6
      refine lv_iconst (v := (0 : Int32)) hx hb ddX4_problemOfFilling_28 (by decide) ?_
      exact k_iret hx hb hr hlocks hK hS h ddX4_problemOfFilling_29
    · replace h := h.2 c6
      refine lv_iconst (v := (3 : Int32)) hx hb ddX4_problemOfFilling_24 (by decide) ?_
      refine lv_goto (tgt := 29) hx hb ddX4_problemOfFilling_25 (by decide) ?_
      exact k_iret hx hb hr hlocks hK hS h ddX4_problemOfFilling_29
  · replace h := h.2 c3
    refine lv_iconst (v := (1 : Int32)) hx hb ddX4_problemOfFilling_11 (by decide) ?_
    exact k_iret hx hb hr hlocks hK hS h ddX4_problemOfFilling_12

set_option maxHeartbeats 4000000 in
set_option maxRecDepth 100000 in
theorem c_X2_leaveTotal (l : Launch) (X : GX) {x1 : Int32} {σ : Mem} {K : Int32 → Mem → Prop} (h : wp_X2_leaveTotal x1 σ K) : MI l X yX2_leaveTotal cX2_leaveTotal 2 ((Option.some Jvm.ClassFile.FieldType.int)) ({ frames := 1, cells := 0, slots := 0, locals := 21 } : Room) [.ref (ga X 1), .int x1] σ K := by
  refine ent_met (QQ := fun A => va_Qi K (BW X A) A) (by decide) (Nat.le_of_ble_eq_true rfl) ?_
  intro p e s m args below meth c A ls hx hb hr hlocks hml hown ht hK hZ hA hS hl
  have hown : s.vm.findClass "GuardRoster$Roster" = some m.cls := hown
  have hl : lv_has ls 2 [(0, .ref (ga X 1)), (1, .int x1)] := hl
  unfold wp_X2_leaveTotal at h
  refine lv_aload_n hx hb ddX2_leaveTotal_0 rfl (lv_at hl 0 rfl) ?_
  refine lv_iload_n hx hb ddX2_leaveTotal_1 rfl (lv_at hl 1 rfl) ?_
  refine k_VI (As := [.int x1]) (rest := []) (c_X2_isGuard l X h) mf_X2_isGuard lk329 hx hb hml hown ht hK hZ hS hA 1 1 rfl rfl rfl ⟨rfl, rfl⟩ ⟨Nat.le_of_ble_eq_true rfl, Nat.le_of_ble_eq_true rfl⟩ rfl hl.1 rfl (Nat.le_of_ble_eq_true rfl) ⟨Nat.le_of_ble_eq_true rfl, Nat.le_of_ble_eq_true rfl⟩ ddX2_leaveTotal_2 (fun r2 σ1 H locs hS h => ?_)
  refine lv_if_eq (tgt := 23) hx hb ddX2_leaveTotal_5 (by decide) (fun c3 => ?_) (fun c3 => ?_)
  · replace h := h.1 c3
    refine lv_iconst (v := (0 : Int32)) hx hb ddX2_leaveTotal_23 (by decide) ?_
    exact k_iret hx hb hr hlocks hK hS h ddX2_leaveTotal_24
  · replace h := h.2 c3
    refine lv_aload_n hx hb ddX2_leaveTotal_8 rfl (lv_at hl 0 rfl) ?_
    refine get_1_0 hx hb hown ht hK hS lk38 ddX2_leaveTotal_9 ?_
    refine lv_bipush (v := (29 : Int32)) hx hb ddX2_leaveTotal_12 (by decide) ?_
    refine lv_iload_n hx hb ddX2_leaveTotal_14 rfl (lv_at hl 1 rfl) ?_
    refine lv_iadd hx hb ddX2_leaveTotal_15 ?_
    refine ald_2 hx hb hK hS h.1 ddX2_leaveTotal_16 ?_
    replace h := h.2
    refine k_SI (As := [.int (σ1 2 ((29 : Int32) + x1).toNatClampNeg)]) (rest := []) (c_J6_bitCount_0f7a4 l X h) mf_J6_bitCount_0f7a4 lk778 hx hb hml hown ht hK hZ hS hA ⟨rfl, rfl⟩ ⟨Nat.le_of_ble_eq_true rfl, Nat.le_of_ble_eq_true rfl⟩ rfl hl.1 rfl (Nat.le_of_ble_eq_true rfl) ⟨Nat.le_of_ble_eq_true rfl, Nat.le_of_ble_eq_true rfl⟩ ddX2_leaveTotal_17 (fun r5 σ4 H locs hS h => ?_)
    refine lv_goto (tgt := 24) hx hb ddX2_leaveTotal_20 (by decide) ?_
    exact k_iret hx hb hr hlocks hK hS h ddX2_leaveTotal_24

set_option maxHeartbeats 4000000 in
set_option maxRecDepth 100000 in
theorem c_X2_addLeave (l : Launch) (X : GX) {x1 x2 x3 : Int32} {σ : Mem} {K : Int32 → Mem → Prop} (h : wp_X2_addLeave x1 x2 x3 σ K) : MI l X yX2_addLeave cX2_addLeave 6 ((Option.some Jvm.ClassFile.FieldType.int)) ({ frames := 2, cells := 0, slots := 0, locals := 42 } : Room) [.ref (ga X 1), .int x1, .int x2, .int x3] σ K := by
  refine ent_met (QQ := fun A => va_Qi K (BW X A) A) (by decide) (Nat.le_of_ble_eq_true rfl) ?_
  intro p e s m args below meth c A ls hx hb hr hlocks hml hown ht hK hZ hA hS hl
  have hown : s.vm.findClass "GuardRoster$Roster" = some m.cls := hown
  have hl : lv_has ls 6 [(0, .ref (ga X 1)), (1, .int x1), (2, .int x2), (3, .int x3)] := hl
  have hJ53 : ∀ (x1 x4 : Int32) (σ : Mem) (H : Heap) (locs : List Loc) (ls : Array Slot), WS X A s.heap σ H locs → lv_has ls 6 [(0, .ref (ga X 1)), (1, .int x1), (4, .int x4)] → wpJ_X2_addLeave_53 K x1 x4 σ → WI X K p l e ({ frames := 2, cells := 0, slots := 0, locals := 42 } : Room) s m args below meth c A H locs (F0 m 53 ls []) := by
    intro x1 x4 σ H locs ls hS hl h
    unfold wpJ_X2_addLeave_53 at h
    refine lv_aload_n hx hb ddX2_addLeave_53 rfl (lv_at hl 0 rfl) ?_
    refine lv_iload_n hx hb ddX2_addLeave_54 rfl (lv_at hl 1 rfl) ?_
    refine k_VI (As := [.int x1]) (rest := []) (c_X2_leaveTotal l X h) mf_X2_leaveTotal lk774 hx hb hml hown ht hK hZ hS hA 1 1 rfl rfl rfl ⟨rfl, rfl⟩ ⟨Nat.le_of_ble_eq_true rfl, Nat.le_of_ble_eq_true rfl⟩ rfl hl.1 rfl (Nat.le_of_ble_eq_true rfl) ⟨Nat.le_of_ble_eq_true rfl, Nat.le_of_ble_eq_true rfl⟩ ddX2_addLeave_55 (fun r5 σ4 H locs hS h => ?_)
    refine lv_iload hx hb ddX2_addLeave_58 (lv_at hl 2 rfl) ?_
    refine lv_isub hx hb ddX2_addLeave_60 ?_
    exact k_iret hx hb hr hlocks hK hS h ddX2_addLeave_61
  have hL10 : ∀ (n : Nat) (x1 x3 x4 x5 : Int32) (σ : Mem) (H : Heap) (locs : List Loc) (ls : Array Slot), WS X A s.heap σ H locs → lv_has ls 6 [(0, .ref (ga X 1)), (1, .int x1), (3, .int x3), (4, .int x4), (5, .int x5)] → wlp (wpF_X2_addLeave_10 K) n (x1, x3, x4, x5, σ) → WI X K p l e ({ frames := 2, cells := 0, slots := 0, locals := 42 } : Room) s m args below meth c A H locs (F0 m 10 ls []) := by
    intro n10
    induction n10 with
    | zero => intro x1 x3 x4 x5 σ H locs ls hS hl h; exact h.elim
    | succ n10 ih10 =>
      have hJ47 : ∀ (x1 x3 x4 x5 : Int32) (σ : Mem) (H : Heap) (locs : List Loc) (ls : Array Slot), WS X A s.heap σ H locs → lv_has ls 6 [(0, .ref (ga X 1)), (1, .int x1), (3, .int x3), (4, .int x4), (5, .int x5)] → wpJ_X2_addLeave_47 K (wlp (wpF_X2_addLeave_10 K) n10) x1 x3 x4 x5 σ → WI X K p l e ({ frames := 2, cells := 0, slots := 0, locals := 42 } : Room) s m args below meth c A H locs (F0 m 47 ls []) := by
        intro x1 x3 x4 x5 σ H locs ls hS hl h
        unfold wpJ_X2_addLeave_47 at h
        obtain ⟨v10, ev10⟩ : ∃ y : Int32, y = x5 + (1 : Int32) := ⟨_, rfl⟩
        replace h := h v10 ev10
        refine lv_iinc (v := v10) (lv' := [(5, .int v10), (0, .ref (ga X 1)), (1, .int x1), (3, .int x3), (4, .int x4)]) hx hb ddX2_addLeave_47 hl (k := 4) rfl (by rw [ev10]; rfl) (by decide) rfl (fun ls hl => ?_)
        refine lv_goto (tgt := 10) hx hb ddX2_addLeave_50 (by decide) ?_
        exact ih10 _ _ _ _ _ _ _ _ hS (lv_sub hl [1, 2, 3, 4, 0] rfl) h
      intro x1 x3 x4 x5 σ H locs ls hS hl h
      replace h : wpS_X2_addLeave_10 K (wlp (wpF_X2_addLeave_10 K) n10) x1 x3 x4 x5 σ := h
      unfold wpS_X2_addLeave_10 at h
      refine lv_iload hx hb ddX2_addLeave_10 (lv_at hl 4 rfl) ?_
      refine lv_iload_n hx hb ddX2_addLeave_12 rfl (lv_at hl 2 rfl) ?_
      refine lv_icmp_gt (tgt := 53) hx hb ddX2_addLeave_13 (by decide) (fun c3 => ?_) (fun c3 => ?_)
      · replace h := h.1 c3
        exact hJ53 _ _ _ _ _ _ hS (lv_sub hl [0, 1, 3] rfl) h
      · replace h := h.2 c3
        refine lv_iload hx hb ddX2_addLeave_16 (lv_at hl 4 rfl) ?_
        refine lv_bipush (v := (28 : Int32)) hx hb ddX2_addLeave_18 (by decide) ?_
        refine lv_icmp_ge (tgt := 53) hx hb ddX2_addLeave_20 (by decide) (fun c6 => ?_) (fun c6 => ?_)
        · replace h := h.1 c6
          exact hJ53 _ _ _ _ _ _ hS (lv_sub hl [0, 1, 3] rfl) h
        · replace h := h.2 c6
          refine lv_aload_n hx hb ddX2_addLeave_23 rfl (lv_at hl 0 rfl) ?_
          refine lv_iload_n hx hb ddX2_addLeave_24 rfl (lv_at hl 1 rfl) ?_
          refine k_VI (As := [.int x1]) (rest := []) (c_X2_isGuard l X h) mf_X2_isGuard lk329 hx hb hml hown ht hK hZ hS hA 1 1 rfl rfl rfl ⟨rfl, rfl⟩ ⟨Nat.le_of_ble_eq_true rfl, Nat.le_of_ble_eq_true rfl⟩ rfl hl.1 rfl (Nat.le_of_ble_eq_true rfl) ⟨Nat.le_of_ble_eq_true rfl, Nat.le_of_ble_eq_true rfl⟩ ddX2_addLeave_25 (fun r8 σ7 H locs hS h => ?_)
          refine lv_if_eq (tgt := 47) hx hb ddX2_addLeave_28 (by decide) (fun c9 => ?_) (fun c9 => ?_)
          · replace h := h.1 c9
            exact hJ47 _ _ _ _ _ _ _ _ hS (lv_sub hl [0, 1, 2, 3, 4] rfl) h
          · replace h := h.2 c9
            refine lv_aload_n hx hb ddX2_addLeave_31 rfl (lv_at hl 0 rfl) ?_
            refine get_1_0 hx hb hown ht hK hS lk38 ddX2_addLeave_32 ?_
            refine lv_bipush (v := (29 : Int32)) hx hb ddX2_addLeave_35 (by decide) ?_
            refine lv_iload_n hx hb ddX2_addLeave_37 rfl (lv_at hl 1 rfl) ?_
            refine lv_iadd hx hb ddX2_addLeave_38 ?_
            refine lv_dup2_11 hx hb ddX2_addLeave_39 rfl rfl ?_
            refine ald_2 hx hb hK hS h.1 ddX2_addLeave_40 ?_
            replace h := h.2
            refine lv_iconst (v := (1 : Int32)) hx hb ddX2_addLeave_41 (by decide) ?_
            refine lv_iload hx hb ddX2_addLeave_42 (lv_at hl 4 rfl) ?_
            refine lv_ishl hx hb ddX2_addLeave_44 ?_
            refine lv_ior hx hb ddX2_addLeave_45 ?_
            refine ast_2 hx hb hK hS h.1 ddX2_addLeave_46 (fun H locs hS => ?_)
            replace h := h.2
            obtain ⟨σ11, eσ11⟩ : ∃ y : Mem, y = (st σ7 2 ((29 : Int32) + x1).toNatClampNeg ((σ7 2 ((29 : Int32) + x1).toNatClampNeg) ||| ((1 : Int32) <<< (x5 &&& 31)))) := ⟨_, rfl⟩
            rw [← eσ11] at hS
            replace h := h σ11 eσ11
            exact hJ47 _ _ _ _ _ _ _ _ hS (lv_sub hl [0, 1, 2, 3, 4] rfl) h
  unfold wp_X2_addLeave at h
  refine lv_aload_n hx hb ddX2_addLeave_0 rfl (lv_at hl 0 rfl) ?_
  refine lv_iload_n hx hb ddX2_addLeave_1 rfl (lv_at hl 1 rfl) ?_
  refine k_VI (As := [.int x1]) (rest := []) (c_X2_leaveTotal l X h) mf_X2_leaveTotal lk774 hx hb hml hown ht hK hZ hS hA 1 1 rfl rfl rfl ⟨rfl, rfl⟩ ⟨Nat.le_of_ble_eq_true rfl, Nat.le_of_ble_eq_true rfl⟩ rfl hl.1 rfl (Nat.le_of_ble_eq_true rfl) ⟨Nat.le_of_ble_eq_true rfl, Nat.le_of_ble_eq_true rfl⟩ ddX2_addLeave_2 (fun r2 σ1 H locs hS h => ?_)
  refine lv_istore (lv' := [(4, .int r2), (0, .ref (ga X 1)), (1, .int x1), (2, .int x2), (3, .int x3)]) hx hb ddX2_addLeave_5 hl (by decide) rfl (fun ls hl => ?_)
  refine lv_iload_n hx hb ddX2_addLeave_7 rfl (lv_at hl 3 rfl) ?_
  refine lv_istore (lv' := [(5, .int x2), (4, .int r2), (0, .ref (ga X 1)), (1, .int x1), (2, .int x2), (3, .int x3)]) hx hb ddX2_addLeave_8 hl (by decide) rfl (fun ls hl => ?_)
  obtain ⟨n, h⟩ := h
  exact hL10 n _ _ _ _ _ _ _ _ hS (lv_sub hl [2, 3, 5, 1, 0] rfl) h

set_option maxHeartbeats 4000000 in
set_option maxRecDepth 100000 in
theorem c_X4_problemOfLeave (l : Launch) (X : GX) {x1 x2 x3 : Int32} {σ : Mem} {K : Int32 → Mem → Prop} (h : wp_X4_problemOfLeave x1 x2 x3 σ K) : MI l X yX4_problemOfLeave cX4_problemOfLeave 5 ((Option.some Jvm.ClassFile.FieldType.int)) ({ frames := 2, cells := 0, slots := 0, locals := 48 } : Room) [.ref (ga X 0), .int x1, .int x2, .int x3] σ K := by
  refine ent_met (QQ := fun A => va_Qi K (BW X A) A) (by decide) (Nat.le_of_ble_eq_true rfl) ?_
  intro p e s m args below meth c A ls hx hb hr hlocks hml hown ht hK hZ hA hS hl
  have hown : s.vm.findClass "GuardRoster" = some m.cls := hown
  have hl : lv_has ls 5 [(0, .ref (ga X 0)), (1, .int x1), (2, .int x2), (3, .int x3)] := hl
  unfold wp_X4_problemOfLeave at h
  refine lv_aload_n hx hb ddX4_problemOfLeave_0 rfl (lv_at hl 0 rfl) ?_
  refine get_0_0 hx hb hown ht hK hS lk109 ddX4_problemOfLeave_1 ?_
  refine lv_iload_n hx hb ddX4_problemOfLeave_4 rfl (lv_at hl 1 rfl) ?_
  refine k_VI (As := [.int x1]) (rest := []) (c_X2_isGuard l X h) mf_X2_isGuard lk556 hx hb hml hown ht hK hZ hS hA 1 1 rfl rfl rfl ⟨rfl, rfl⟩ ⟨Nat.le_of_ble_eq_true rfl, Nat.le_of_ble_eq_true rfl⟩ rfl hl.1 rfl (Nat.le_of_ble_eq_true rfl) ⟨Nat.le_of_ble_eq_true rfl, Nat.le_of_ble_eq_true rfl⟩ ddX4_problemOfLeave_5 (fun r2 σ1 H locs hS h => ?_)
  refine lv_if_ne (tgt := 13) hx hb ddX4_problemOfLeave_8 (by decide) (fun c3 => ?_) (fun c3 => ?_)
  · replace h := h.1 c3
    refine lv_aload_n hx hb ddX4_problemOfLeave_13 rfl (lv_at hl 0 rfl) ?_
    refine get_0_0 hx hb hown ht hK hS lk109 ddX4_problemOfLeave_14 ?_
    refine lv_iload_n hx hb ddX4_problemOfLeave_17 rfl (lv_at hl 2 rfl) ?_
    refine k_VI (As := [.int x2]) (rest := []) (c_X2_isSlot l X h) mf_X2_isSlot lk239 hx hb hml hown ht hK hZ hS hA 1 1 rfl rfl rfl ⟨rfl, rfl⟩ ⟨Nat.le_of_ble_eq_true rfl, Nat.le_of_ble_eq_true rfl⟩ rfl hl.1 rfl (Nat.le_of_ble_eq_true rfl) ⟨Nat.le_of_ble_eq_true rfl, Nat.le_of_ble_eq_true rfl⟩ ddX4_problemOfLeave_18 (fun r5 σ4 H locs hS h => ?_)
    refine lv_if_eq (tgt := 40) hx hb ddX4_problemOfLeave_21 (by decide) (fun c6 => ?_) (fun c6 => ?_)
    · replace h := h.1 c6
      refine lv_iconst (v := (2 : Int32)) hx hb ddX4_problemOfLeave_40 (by decide) ?_
      exact k_iret hx hb hr hlocks hK hS h ddX4_problemOfLeave_41
    · replace h := h.2 c6
      refine lv_aload_n hx hb ddX4_problemOfLeave_24 rfl (lv_at hl 0 rfl) ?_
      refine get_0_0 hx hb hown ht hK hS lk109 ddX4_problemOfLeave_25 ?_
      refine lv_iload_n hx hb ddX4_problemOfLeave_28 rfl (lv_at hl 3 rfl) ?_
      refine k_VI (As := [.int x3]) (rest := []) (c_X2_isSlot l X h) mf_X2_isSlot lk239 hx hb hml hown ht hK hZ hS hA 1 1 rfl rfl rfl ⟨rfl, rfl⟩ ⟨Nat.le_of_ble_eq_true rfl, Nat.le_of_ble_eq_true rfl⟩ rfl hl.1 rfl (Nat.le_of_ble_eq_true rfl) ⟨Nat.le_of_ble_eq_true rfl, Nat.le_of_ble_eq_true rfl⟩ ddX4_problemOfLeave_29 (fun r8 σ7 H locs hS h => ?_)
      refine lv_if_eq (tgt := 40) hx hb ddX4_problemOfLeave_32 (by decide) (fun c9 => ?_) (fun c9 => ?_)
      · replace h := h.1 c9
        refine lv_iconst (v := (2 : Int32)) hx hb ddX4_problemOfLeave_40 (by decide) ?_
        exact k_iret hx hb hr hlocks hK hS h ddX4_problemOfLeave_41
      · replace h := h.2 c9
        refine lv_iload_n hx hb ddX4_problemOfLeave_35 rfl (lv_at hl 2 rfl) ?_
        refine lv_iload_n hx hb ddX4_problemOfLeave_36 rfl (lv_at hl 3 rfl) ?_
        refine lv_icmp_le (tgt := 42) hx hb ddX4_problemOfLeave_37 (by decide) (fun c10 => ?_) (fun c10 => ?_)
        · replace h := h.1 c10
          refine lv_aload_n hx hb ddX4_problemOfLeave_42 rfl (lv_at hl 0 rfl) ?_
          refine get_0_0 hx hb hown ht hK hS lk109 ddX4_problemOfLeave_43 ?_
          refine lv_iload_n hx hb ddX4_problemOfLeave_46 rfl (lv_at hl 2 rfl) ?_
          refine k_VI (As := [.int x2]) (rest := []) (c_X2_hasPassed l X h) mf_X2_hasPassed lk582 hx hb hml hown ht hK hZ hS hA 1 1 rfl rfl rfl ⟨rfl, rfl⟩ ⟨Nat.le_of_ble_eq_true rfl, Nat.le_of_ble_eq_true rfl⟩ rfl hl.1 rfl (Nat.le_of_ble_eq_true rfl) ⟨Nat.le_of_ble_eq_true rfl, Nat.le_of_ble_eq_true rfl⟩ ddX4_problemOfLeave_47 (fun r12 σ11 H locs hS h => ?_)
          refine lv_if_eq (tgt := 55) hx hb ddX4_problemOfLeave_50 (by decide) (fun c13 => ?_) (fun c13 => ?_)
          · replace h := h.1 c13
            refine lv_aload_n hx hb ddX4_problemOfLeave_55 rfl (lv_at hl 0 rfl) ?_
            refine get_0_0 hx hb hown ht hK hS lk109 ddX4_problemOfLeave_56 ?_
            refine lv_iload_n hx hb ddX4_problemOfLeave_59 rfl (lv_at hl 1 rfl) ?_
            refine lv_iload_n hx hb ddX4_problemOfLeave_60 rfl (lv_at hl 2 rfl) ?_
            refine lv_iload_n hx hb ddX4_problemOfLeave_61 rfl (lv_at hl 3 rfl) ?_
            refine k_VI (As := [.int x1, .int x2, .int x3]) (rest := []) (c_X2_firstGateHeld l X h) mf_X2_firstGateHeld lk766 hx hb hml hown ht hK hZ hS hA 1 1 rfl rfl rfl ⟨rfl, rfl⟩ ⟨Nat.le_of_ble_eq_true rfl, Nat.le_of_ble_eq_true rfl⟩ rfl hl.1 rfl (Nat.le_of_ble_eq_true rfl) ⟨Nat.le_of_ble_eq_true rfl, Nat.le_of_ble_eq_true rfl⟩ ddX4_problemOfLeave_62 (fun r15 σ14 H locs hS h => ?_)
            refine lv_istore (lv' := [(4, .int r15), (0, .ref (ga X 0)), (1, .int x1), (2, .int x2), (3, .int x3)]) hx hb ddX4_problemOfLeave_65 hl (by decide) rfl (fun ls hl => ?_)
            refine lv_iload hx hb ddX4_problemOfLeave_67 (lv_at hl 0 rfl) ?_
            refine lv_iconst (v := (-1 : Int32)) hx hb ddX4_problemOfLeave_69 (by decide) ?_
            refine lv_icmp_eq (tgt := 82) hx hb ddX4_problemOfLeave_70 (by decide) (fun c16 => ?_) (fun c16 => ?_)
            · replace h := h.1 c16
              refine lv_iconst (v := (0 : Int32)) hx hb ddX4_problemOfLeave_82 (by decide) ?_
              exact k_iret hx hb hr hlocks hK hS h ddX4_problemOfLeave_83
            · replace h := h.2 c16
              refine lv_aload_n hx hb ddX4_problemOfLeave_73 rfl (lv_at hl 1 rfl) ?_
              refine lv_iconst (v := (4 : Int32)) hx hb ddX4_problemOfLeave_74 (by decide) ?_
              refine lv_iload hx hb ddX4_problemOfLeave_75 (lv_at hl 0 rfl) ?_
              refine k_VV (As := [.int (4 : Int32), .int r15]) (rest := []) (c_X4_keepRefusal l X h) mf_X4_keepRefusal lk595 hx hb hml hown ht hK hZ hS hA 0 0 rfl rfl rfl ⟨rfl, rfl⟩ ⟨Nat.le_of_ble_eq_true rfl, Nat.le_of_ble_eq_true rfl⟩ rfl hl.1 rfl (Nat.le_of_ble_eq_true rfl) ⟨Nat.le_of_ble_eq_true rfl, Nat.le_of_ble_eq_true rfl⟩ ddX4_problemOfLeave_77 (fun σ17 H locs hS h => ?_)
              refine lv_iconst (v := (5 : Int32)) hx hb ddX4_problemOfLeave_80 (by decide) ?_
              exact k_iret hx hb hr hlocks hK hS h ddX4_problemOfLeave_81
          · replace h := h.2 c13
            refine lv_iconst (v := (3 : Int32)) hx hb ddX4_problemOfLeave_53 (by decide) ?_
            exact k_iret hx hb hr hlocks hK hS h ddX4_problemOfLeave_54
        · replace h := h.2 c10
          refine lv_iconst (v := (2 : Int32)) hx hb ddX4_problemOfLeave_40 (by decide) ?_
          exact k_iret hx hb hr hlocks hK hS h ddX4_problemOfLeave_41
  · replace h := h.2 c3
    refine lv_iconst (v := (1 : Int32)) hx hb ddX4_problemOfLeave_11 (by decide) ?_
    exact k_iret hx hb hr hlocks hK hS h ddX4_problemOfLeave_12

set_option maxHeartbeats 4000000 in
set_option maxRecDepth 100000 in
theorem c_X4_problemOfFood (l : Launch) (X : GX) {x1 : Int32} {σ : Mem} {K : Int32 → Mem → Prop} (h : wp_X4_problemOfFood x1 σ K) : MI l X yX4_problemOfFood cX4_problemOfFood 2 ((Option.some Jvm.ClassFile.FieldType.int)) ({ frames := 1, cells := 0, slots := 0, locals := 20 } : Room) [.ref (ga X 0), .int x1] σ K := by
  refine ent_met (QQ := fun A => va_Qi K (BW X A) A) (by decide) (Nat.le_of_ble_eq_true rfl) ?_
  intro p e s m args below meth c A ls hx hb hr hlocks hml hown ht hK hZ hA hS hl
  have hown : s.vm.findClass "GuardRoster" = some m.cls := hown
  have hl : lv_has ls 2 [(0, .ref (ga X 0)), (1, .int x1)] := hl
  unfold wp_X4_problemOfFood at h
  refine lv_iload_n hx hb ddX4_problemOfFood_0 rfl (lv_at hl 1 rfl) ?_
  refine lv_iconst (v := (1 : Int32)) hx hb ddX4_problemOfFood_1 (by decide) ?_
  refine lv_icmp_lt (tgt := 11) hx hb ddX4_problemOfFood_2 (by decide) (fun c1 => ?_) (fun c1 => ?_)
  · replace h := h.1 c1
    refine lv_iconst (v := (2 : Int32)) hx hb ddX4_problemOfFood_11 (by decide) ?_
    exact k_iret hx hb hr hlocks hK hS h ddX4_problemOfFood_12
  · replace h := h.2 c1
    refine lv_iload_n hx hb ddX4_problemOfFood_5 rfl (lv_at hl 1 rfl) ?_
    refine lv_bipush (v := (50 : Int32)) hx hb ddX4_problemOfFood_6 (by decide) ?_
    refine lv_icmp_le (tgt := 13) hx hb ddX4_problemOfFood_8 (by decide) (fun c2 => ?_) (fun c2 => ?_)
    · replace h := h.1 c2
      refine lv_aload_n hx hb ddX4_problemOfFood_13 rfl (lv_at hl 0 rfl) ?_
      refine get_0_0 hx hb hown ht hK hS lk109 ddX4_problemOfFood_14 ?_
      refine k_VI (As := []) (rest := []) (c_X2_rationsLeft l X h) mf_X2_rationsLeft lk212 hx hb hml hown ht hK hZ hS hA 1 1 rfl rfl rfl ⟨rfl, rfl⟩ ⟨Nat.le_of_ble_eq_true rfl, Nat.le_of_ble_eq_true rfl⟩ rfl hl.1 rfl (Nat.le_of_ble_eq_true rfl) ⟨Nat.le_of_ble_eq_true rfl, Nat.le_of_ble_eq_true rfl⟩ ddX4_problemOfFood_17 (fun r4 σ3 H locs hS h => ?_)
      refine lv_iload_n hx hb ddX4_problemOfFood_20 rfl (lv_at hl 1 rfl) ?_
      refine lv_iadd hx hb ddX4_problemOfFood_21 ?_
      refine lv_bipush (v := (99 : Int32)) hx hb ddX4_problemOfFood_22 (by decide) ?_
      refine lv_icmp_le (tgt := 31) hx hb ddX4_problemOfFood_24 (by decide) (fun c5 => ?_) (fun c5 => ?_)
      · replace h := h.1 c5
        refine lv_iconst (v := (0 : Int32)) hx hb ddX4_problemOfFood_31 (by decide) ?_
        exact k_iret hx hb hr hlocks hK hS h ddX4_problemOfFood_32
      · replace h := h.2 c5
        refine lv_iconst (v := (3 : Int32)) hx hb ddX4_problemOfFood_27 (by decide) ?_
        refine lv_goto (tgt := 32) hx hb ddX4_problemOfFood_28 (by decide) ?_
        exact k_iret hx hb hr hlocks hK hS h ddX4_problemOfFood_32
    · replace h := h.2 c2
      refine lv_iconst (v := (2 : Int32)) hx hb ddX4_problemOfFood_11 (by decide) ?_
      exact k_iret hx hb hr hlocks hK hS h ddX4_problemOfFood_12

set_option maxHeartbeats 4000000 in
set_option maxRecDepth 100000 in
theorem c_X4_problemOfPassing (l : Launch) (X : GX) {x1 : Int32} {σ : Mem} {K : Int32 → Mem → Prop} (h : wp_X4_problemOfPassing x1 σ K) : MI l X yX4_problemOfPassing cX4_problemOfPassing 2 ((Option.some Jvm.ClassFile.FieldType.int)) ({ frames := 1, cells := 0, slots := 0, locals := 20 } : Room) [.ref (ga X 0), .int x1] σ K := by
  refine ent_met (QQ := fun A => va_Qi K (BW X A) A) (by decide) (Nat.le_of_ble_eq_true rfl) ?_
  intro p e s m args below meth c A ls hx hb hr hlocks hml hown ht hK hZ hA hS hl
  have hown : s.vm.findClass "GuardRoster" = some m.cls := hown
  have hl : lv_has ls 2 [(0, .ref (ga X 0)), (1, .int x1)] := hl
  unfold wp_X4_problemOfPassing at h
  refine lv_iload_n hx hb ddX4_problemOfPassing_0 rfl (lv_at hl 1 rfl) ?_
  refine lv_iconst (v := (1 : Int32)) hx hb ddX4_problemOfPassing_1 (by decide) ?_
  refine lv_icmp_lt (tgt := 11) hx hb ddX4_problemOfPassing_2 (by decide) (fun c1 => ?_) (fun c1 => ?_)
  · replace h := h.1 c1
    refine lv_iconst (v := (2 : Int32)) hx hb ddX4_problemOfPassing_11 (by decide) ?_
    exact k_iret hx hb hr hlocks hK hS h ddX4_problemOfPassing_12
  · replace h := h.2 c1
    refine lv_iload_n hx hb ddX4_problemOfPassing_5 rfl (lv_at hl 1 rfl) ?_
    refine lv_bipush (v := (28 : Int32)) hx hb ddX4_problemOfPassing_6 (by decide) ?_
    refine lv_icmp_le (tgt := 13) hx hb ddX4_problemOfPassing_8 (by decide) (fun c2 => ?_) (fun c2 => ?_)
    · replace h := h.1 c2
      refine lv_iload_n hx hb ddX4_problemOfPassing_13 rfl (lv_at hl 1 rfl) ?_
      refine lv_bipush (v := (28 : Int32)) hx hb ddX4_problemOfPassing_14 (by decide) ?_
      refine lv_aload_n hx hb ddX4_problemOfPassing_16 rfl (lv_at hl 0 rfl) ?_
      refine get_0_0 hx hb hown ht hK hS lk109 ddX4_problemOfPassing_17 ?_
      refine k_VI (As := []) (rest := [.int (28 : Int32), .int x1]) (c_X2_now l X h) mf_X2_now lk206 hx hb hml hown ht hK hZ hS hA 1 1 rfl rfl rfl ⟨rfl, rfl⟩ ⟨Nat.le_of_ble_eq_true rfl, Nat.le_of_ble_eq_true rfl⟩ rfl hl.1 rfl (Nat.le_of_ble_eq_true rfl) ⟨Nat.le_of_ble_eq_true rfl, Nat.le_of_ble_eq_true rfl⟩ ddX4_problemOfPassing_20 (fun r4 σ3 H locs hS h => ?_)
      refine lv_isub hx hb ddX4_problemOfPassing_23 ?_
      refine lv_icmp_le (tgt := 31) hx hb ddX4_problemOfPassing_24 (by decide) (fun c5 => ?_) (fun c5 => ?_)
      · replace h := h.1 c5
        refine lv_iconst (v := (0 : Int32)) hx hb ddX4_problemOfPassing_31 (by decide) ?_
        exact k_iret hx hb hr hlocks hK hS h ddX4_problemOfPassing_32
      · replace h := h.2 c5
        refine lv_iconst (v := (3 : Int32)) hx hb ddX4_problemOfPassing_27 (by decide) ?_
        refine lv_goto (tgt := 32) hx hb ddX4_problemOfPassing_28 (by decide) ?_
        exact k_iret hx hb hr hlocks hK hS h ddX4_problemOfPassing_32
    · replace h := h.2 c2
      refine lv_iconst (v := (2 : Int32)) hx hb ddX4_problemOfPassing_11 (by decide) ?_
      exact k_iret hx hb hr hlocks hK hS h ddX4_problemOfPassing_12

set_option maxHeartbeats 4000000 in
set_option maxRecDepth 100000 in
theorem c_X4_problemOfCommand (l : Launch) (X : GX) {x1 x2 x3 x4 : Int32} {σ : Mem} {K : Int32 → Mem → Prop} (h : wp_X4_problemOfCommand x1 x2 x3 x4 σ K) : MI l X yX4_problemOfCommand cX4_problemOfCommand 5 ((Option.some Jvm.ClassFile.FieldType.int)) ({ frames := 5, cells := 0, slots := 0, locals := 114 } : Room) [.ref (ga X 0), .int x1, .int x2, .int x3, .int x4] σ K := by
  refine ent_met (QQ := fun A => va_Qi K (BW X A) A) (by decide) (Nat.le_of_ble_eq_true rfl) ?_
  intro p e s m args below meth c A ls hx hb hr hlocks hml hown ht hK hZ hA hS hl
  have hown : s.vm.findClass "GuardRoster" = some m.cls := hown
  have hl : lv_has ls 5 [(0, .ref (ga X 0)), (1, .int x1), (2, .int x2), (3, .int x3), (4, .int x4)] := hl
  unfold wp_X4_problemOfCommand at h
  refine lv_iload_n hx hb ddX4_problemOfCommand_0 rfl (lv_at hl 1 rfl) ?_
  by_cases c3 : x1 = (0 : Int32)
  · refine lv_tableIn (off := 47) (tgt := 48) hx hb ddX4_problemOfCommand_1 (by rw [c3]; decide) (by rw [c3]; decide) (by rw [c3]; rfl) (by decide) ?_
    replace h := h.1 c3
    refine lv_aload_n hx hb ddX4_problemOfCommand_48 rfl (lv_at hl 0 rfl) ?_
    refine lv_iload_n hx hb ddX4_problemOfCommand_49 rfl (lv_at hl 2 rfl) ?_
    refine k_VI (As := [.int x2]) (rest := []) (c_X4_problemOfGate l X h) mf_X4_problemOfGate lk404 hx hb hml hown ht hK hZ hS hA 0 0 rfl rfl rfl ⟨rfl, rfl⟩ ⟨Nat.le_of_ble_eq_true rfl, Nat.le_of_ble_eq_true rfl⟩ rfl hl.1 rfl (Nat.le_of_ble_eq_true rfl) ⟨Nat.le_of_ble_eq_true rfl, Nat.le_of_ble_eq_true rfl⟩ ddX4_problemOfCommand_50 (fun r2 σ1 H locs hS h => ?_)
    exact k_iret hx hb hr hlocks hK hS h ddX4_problemOfCommand_53
  replace h := h.2
  by_cases c6 : x1 = (1 : Int32)
  · refine lv_tableIn (off := 53) (tgt := 54) hx hb ddX4_problemOfCommand_1 (by rw [c6]; decide) (by rw [c6]; decide) (by rw [c6]; rfl) (by decide) ?_
    replace h := h.1 c6
    refine lv_aload_n hx hb ddX4_problemOfCommand_54 rfl (lv_at hl 0 rfl) ?_
    refine lv_iload_n hx hb ddX4_problemOfCommand_55 rfl (lv_at hl 2 rfl) ?_
    refine k_VI (As := [.int x2]) (rest := []) (c_X4_problemOfGuard l X h) mf_X4_problemOfGuard lk506 hx hb hml hown ht hK hZ hS hA 0 0 rfl rfl rfl ⟨rfl, rfl⟩ ⟨Nat.le_of_ble_eq_true rfl, Nat.le_of_ble_eq_true rfl⟩ rfl hl.1 rfl (Nat.le_of_ble_eq_true rfl) ⟨Nat.le_of_ble_eq_true rfl, Nat.le_of_ble_eq_true rfl⟩ ddX4_problemOfCommand_56 (fun r5 σ4 H locs hS h => ?_)
    exact k_iret hx hb hr hlocks hK hS h ddX4_problemOfCommand_59
  replace h := h.2
  by_cases c9 : x1 = (2 : Int32)
  · refine lv_tableIn (off := 59) (tgt := 60) hx hb ddX4_problemOfCommand_1 (by rw [c9]; decide) (by rw [c9]; decide) (by rw [c9]; rfl) (by decide) ?_
    replace h := h.1 c9
    refine lv_aload_n hx hb ddX4_problemOfCommand_60 rfl (lv_at hl 0 rfl) ?_
    refine lv_iload_n hx hb ddX4_problemOfCommand_61 rfl (lv_at hl 2 rfl) ?_
    refine lv_iload_n hx hb ddX4_problemOfCommand_62 rfl (lv_at hl 3 rfl) ?_
    refine lv_iload hx hb ddX4_problemOfCommand_63 (lv_at hl 4 rfl) ?_
    refine k_VI (As := [.int x2, .int x3, .int x4]) (rest := []) (c_X4_problemOfDuty l X h) mf_X4_problemOfDuty lk578 hx hb hml hown ht hK hZ hS hA 0 0 rfl rfl rfl ⟨rfl, rfl⟩ ⟨Nat.le_of_ble_eq_true rfl, Nat.le_of_ble_eq_true rfl⟩ rfl hl.1 rfl (Nat.le_of_ble_eq_true rfl) ⟨Nat.le_of_ble_eq_true rfl, Nat.le_of_ble_eq_true rfl⟩ ddX4_problemOfCommand_65 (fun r8 σ7 H locs hS h => ?_)
    exact k_iret hx hb hr hlocks hK hS h ddX4_problemOfCommand_68
  replace h := h.2
  by_cases c12 : x1 = (3 : Int32)
  · refine lv_tableIn (off := 68) (tgt := 69) hx hb ddX4_problemOfCommand_1 (by rw [c12]; decide) (by rw [c12]; decide) (by rw [c12]; rfl) (by decide) ?_
    replace h := h.1 c12
    refine lv_aload_n hx hb ddX4_problemOfCommand_69 rfl (lv_at hl 0 rfl) ?_
    refine lv_iload_n hx hb ddX4_problemOfCommand_70 rfl (lv_at hl 2 rfl) ?_
    refine lv_iload_n hx hb ddX4_problemOfCommand_71 rfl (lv_at hl 3 rfl) ?_
    refine k_VI (As := [.int x2, .int x3]) (rest := []) (c_X4_problemOfFreeing l X h) mf_X4_problemOfFreeing lk622 hx hb hml hown ht hK hZ hS hA 0 0 rfl rfl rfl ⟨rfl, rfl⟩ ⟨Nat.le_of_ble_eq_true rfl, Nat.le_of_ble_eq_true rfl⟩ rfl hl.1 rfl (Nat.le_of_ble_eq_true rfl) ⟨Nat.le_of_ble_eq_true rfl, Nat.le_of_ble_eq_true rfl⟩ ddX4_problemOfCommand_72 (fun r11 σ10 H locs hS h => ?_)
    exact k_iret hx hb hr hlocks hK hS h ddX4_problemOfCommand_75
  replace h := h.2
  by_cases c15 : x1 = (4 : Int32)
  · refine lv_tableIn (off := 75) (tgt := 76) hx hb ddX4_problemOfCommand_1 (by rw [c15]; decide) (by rw [c15]; decide) (by rw [c15]; rfl) (by decide) ?_
    replace h := h.1 c15
    refine lv_aload_n hx hb ddX4_problemOfCommand_76 rfl (lv_at hl 0 rfl) ?_
    refine lv_iload_n hx hb ddX4_problemOfCommand_77 rfl (lv_at hl 2 rfl) ?_
    refine lv_iload_n hx hb ddX4_problemOfCommand_78 rfl (lv_at hl 3 rfl) ?_
    refine lv_iload hx hb ddX4_problemOfCommand_79 (lv_at hl 4 rfl) ?_
    refine k_VI (As := [.int x2, .int x3, .int x4]) (rest := []) (c_X4_problemOfLeave l X h) mf_X4_problemOfLeave lk762 hx hb hml hown ht hK hZ hS hA 0 0 rfl rfl rfl ⟨rfl, rfl⟩ ⟨Nat.le_of_ble_eq_true rfl, Nat.le_of_ble_eq_true rfl⟩ rfl hl.1 rfl (Nat.le_of_ble_eq_true rfl) ⟨Nat.le_of_ble_eq_true rfl, Nat.le_of_ble_eq_true rfl⟩ ddX4_problemOfCommand_81 (fun r14 σ13 H locs hS h => ?_)
    exact k_iret hx hb hr hlocks hK hS h ddX4_problemOfCommand_84
  replace h := h.2
  by_cases c18 : x1 = (5 : Int32)
  · refine lv_tableIn (off := 84) (tgt := 85) hx hb ddX4_problemOfCommand_1 (by rw [c18]; decide) (by rw [c18]; decide) (by rw [c18]; rfl) (by decide) ?_
    replace h := h.1 c18
    refine lv_aload_n hx hb ddX4_problemOfCommand_85 rfl (lv_at hl 0 rfl) ?_
    refine lv_iload_n hx hb ddX4_problemOfCommand_86 rfl (lv_at hl 2 rfl) ?_
    refine k_VI (As := [.int x2]) (rest := []) (c_X4_problemOfFilling l X h) mf_X4_problemOfFilling lk649 hx hb hml hown ht hK hZ hS hA 0 0 rfl rfl rfl ⟨rfl, rfl⟩ ⟨Nat.le_of_ble_eq_true rfl, Nat.le_of_ble_eq_true rfl⟩ rfl hl.1 rfl (Nat.le_of_ble_eq_true rfl) ⟨Nat.le_of_ble_eq_true rfl, Nat.le_of_ble_eq_true rfl⟩ ddX4_problemOfCommand_87 (fun r17 σ16 H locs hS h => ?_)
    exact k_iret hx hb hr hlocks hK hS h ddX4_problemOfCommand_90
  replace h := h.2
  by_cases c21 : x1 = (6 : Int32)
  · refine lv_tableIn (off := 90) (tgt := 91) hx hb ddX4_problemOfCommand_1 (by rw [c21]; decide) (by rw [c21]; decide) (by rw [c21]; rfl) (by decide) ?_
    replace h := h.1 c21
    refine lv_aload_n hx hb ddX4_problemOfCommand_91 rfl (lv_at hl 0 rfl) ?_
    refine lv_iload_n hx hb ddX4_problemOfCommand_92 rfl (lv_at hl 2 rfl) ?_
    refine k_VI (As := [.int x2]) (rest := []) (c_X4_problemOfFood l X h) mf_X4_problemOfFood lk814 hx hb hml hown ht hK hZ hS hA 0 0 rfl rfl rfl ⟨rfl, rfl⟩ ⟨Nat.le_of_ble_eq_true rfl, Nat.le_of_ble_eq_true rfl⟩ rfl hl.1 rfl (Nat.le_of_ble_eq_true rfl) ⟨Nat.le_of_ble_eq_true rfl, Nat.le_of_ble_eq_true rfl⟩ ddX4_problemOfCommand_93 (fun r20 σ19 H locs hS h => ?_)
    exact k_iret hx hb hr hlocks hK hS h ddX4_problemOfCommand_96
  replace h := h.2
  by_cases c24 : x1 = (7 : Int32)
  · refine lv_tableIn (off := 96) (tgt := 97) hx hb ddX4_problemOfCommand_1 (by rw [c24]; decide) (by rw [c24]; decide) (by rw [c24]; rfl) (by decide) ?_
    replace h := h.1 c24
    refine lv_aload_n hx hb ddX4_problemOfCommand_97 rfl (lv_at hl 0 rfl) ?_
    refine lv_iload_n hx hb ddX4_problemOfCommand_98 rfl (lv_at hl 2 rfl) ?_
    refine k_VI (As := [.int x2]) (rest := []) (c_X4_problemOfPassing l X h) mf_X4_problemOfPassing lk829 hx hb hml hown ht hK hZ hS hA 0 0 rfl rfl rfl ⟨rfl, rfl⟩ ⟨Nat.le_of_ble_eq_true rfl, Nat.le_of_ble_eq_true rfl⟩ rfl hl.1 rfl (Nat.le_of_ble_eq_true rfl) ⟨Nat.le_of_ble_eq_true rfl, Nat.le_of_ble_eq_true rfl⟩ ddX4_problemOfCommand_99 (fun r23 σ22 H locs hS h => ?_)
    exact k_iret hx hb hr hlocks hK hS h ddX4_problemOfCommand_102
  replace h := h.2
  refine lv_tableOut (tgt := 103) hx hb ddX4_problemOfCommand_1 (by have := ne_toInt c3 (a := 0) rfl; have := ne_toInt c6 (a := 1) rfl; have := ne_toInt c9 (a := 2) rfl; have := ne_toInt c12 (a := 3) rfl; have := ne_toInt c15 (a := 4) rfl; have := ne_toInt c18 (a := 5) rfl; have := ne_toInt c21 (a := 6) rfl; have := ne_toInt c24 (a := 7) rfl; omega) (by decide) ?_
  replace h := h c3 c6 c9 c12 c15 c18 c21 c24
  refine lv_iconst (v := (2 : Int32)) hx hb ddX4_problemOfCommand_103 (by decide) ?_
  exact k_iret hx hb hr hlocks hK hS h ddX4_problemOfCommand_104

set_option maxHeartbeats 4000000 in
set_option maxRecDepth 100000 in
theorem c_X4_carryOut (l : Launch) (X : GX) {x1 x2 x3 x4 : Int32} {σ : Mem} {K : Mem → Prop} (h : wp_X4_carryOut x1 x2 x3 x4 σ K) : MV l X yX4_carryOut cX4_carryOut 5 ((Option.none : Option Jvm.ClassFile.FieldType)) ({ frames := 5, cells := 0, slots := 0, locals := 117 } : Room) [.ref (ga X 0), .int x1, .int x2, .int x3, .int x4] σ K := by
  refine ent_met (QQ := fun A => va_Qv K (BW X A) A) (by decide) (Nat.le_of_ble_eq_true rfl) ?_
  intro p e s m args below meth c A ls hx hb hr hlocks hml hown ht hK hZ hA hS hl
  have hown : s.vm.findClass "GuardRoster" = some m.cls := hown
  have hl : lv_has ls 5 [(0, .ref (ga X 0)), (1, .int x1), (2, .int x2), (3, .int x3), (4, .int x4)] := hl
  unfold wp_X4_carryOut at h
  refine lv_iload_n hx hb ddX4_carryOut_0 rfl (lv_at hl 1 rfl) ?_
  by_cases c3 : x1 = (0 : Int32)
  · refine lv_tableIn (off := 47) (tgt := 48) hx hb ddX4_carryOut_1 (by rw [c3]; decide) (by rw [c3]; decide) (by rw [c3]; rfl) (by decide) ?_
    replace h := h.1 c3
    refine lv_aload_n hx hb ddX4_carryOut_48 rfl (lv_at hl 0 rfl) ?_
    refine get_0_0 hx hb hown ht hK hS lk109 ddX4_carryOut_49 ?_
    refine lv_iload_n hx hb ddX4_carryOut_52 rfl (lv_at hl 2 rfl) ?_
    refine k_VI (As := [.int x2]) (rest := []) (c_X2_appendGate l X h) mf_X2_appendGate lk495 hx hb hml hown ht hK hZ hS hA 1 1 rfl rfl rfl ⟨rfl, rfl⟩ ⟨Nat.le_of_ble_eq_true rfl, Nat.le_of_ble_eq_true rfl⟩ rfl hl.1 rfl (Nat.le_of_ble_eq_true rfl) ⟨Nat.le_of_ble_eq_true rfl, Nat.le_of_ble_eq_true rfl⟩ ddX4_carryOut_53 (fun r2 σ1 H locs hS h => ?_)
    refine lv_pop hx hb ddX4_carryOut_56 rfl ?_
    refine lv_goto (tgt := 149) hx hb ddX4_carryOut_57 (by decide) ?_
    exact k_vret hx hb hr hlocks hK hS h ddX4_carryOut_149
  replace h := h.2
  by_cases c6 : x1 = (1 : Int32)
  · refine lv_tableIn (off := 59) (tgt := 60) hx hb ddX4_carryOut_1 (by rw [c6]; decide) (by rw [c6]; decide) (by rw [c6]; rfl) (by decide) ?_
    replace h := h.1 c6
    refine lv_aload_n hx hb ddX4_carryOut_60 rfl (lv_at hl 0 rfl) ?_
    refine get_0_0 hx hb hown ht hK hS lk109 ddX4_carryOut_61 ?_
    refine lv_iload_n hx hb ddX4_carryOut_64 rfl (lv_at hl 2 rfl) ?_
    refine k_VI (As := [.int x2]) (rest := []) (c_X2_appendGuard l X h) mf_X2_appendGuard lk510 hx hb hml hown ht hK hZ hS hA 1 1 rfl rfl rfl ⟨rfl, rfl⟩ ⟨Nat.le_of_ble_eq_true rfl, Nat.le_of_ble_eq_true rfl⟩ rfl hl.1 rfl (Nat.le_of_ble_eq_true rfl) ⟨Nat.le_of_ble_eq_true rfl, Nat.le_of_ble_eq_true rfl⟩ ddX4_carryOut_65 (fun r5 σ4 H locs hS h => ?_)
    refine lv_pop hx hb ddX4_carryOut_68 rfl ?_
    refine lv_goto (tgt := 149) hx hb ddX4_carryOut_69 (by decide) ?_
    exact k_vret hx hb hr hlocks hK hS h ddX4_carryOut_149
  replace h := h.2
  by_cases c8 : x1 = (2 : Int32)
  · refine lv_tableIn (off := 71) (tgt := 72) hx hb ddX4_carryOut_1 (by rw [c8]; decide) (by rw [c8]; decide) (by rw [c8]; rfl) (by decide) ?_
    replace h := h.1 c8
    refine lv_aload_n hx hb ddX4_carryOut_72 rfl (lv_at hl 0 rfl) ?_
    refine get_0_0 hx hb hown ht hK hS lk109 ddX4_carryOut_73 ?_
    refine lv_iload_n hx hb ddX4_carryOut_76 rfl (lv_at hl 2 rfl) ?_
    refine lv_iload_n hx hb ddX4_carryOut_77 rfl (lv_at hl 3 rfl) ?_
    refine lv_iload hx hb ddX4_carryOut_78 (lv_at hl 4 rfl) ?_
    refine k_VV (As := [.int x2, .int x3, .int x4]) (rest := []) (c_X2_setDuty l X h) mf_X2_setDuty lk599 hx hb hml hown ht hK hZ hS hA 1 1 rfl rfl rfl ⟨rfl, rfl⟩ ⟨Nat.le_of_ble_eq_true rfl, Nat.le_of_ble_eq_true rfl⟩ rfl hl.1 rfl (Nat.le_of_ble_eq_true rfl) ⟨Nat.le_of_ble_eq_true rfl, Nat.le_of_ble_eq_true rfl⟩ ddX4_carryOut_80 (fun σ7 H locs hS h => ?_)
    refine lv_goto (tgt := 149) hx hb ddX4_carryOut_83 (by decide) ?_
    exact k_vret hx hb hr hlocks hK hS h ddX4_carryOut_149
  replace h := h.2
  by_cases c10 : x1 = (3 : Int32)
  · refine lv_tableIn (off := 85) (tgt := 86) hx hb ddX4_carryOut_1 (by rw [c10]; decide) (by rw [c10]; decide) (by rw [c10]; rfl) (by decide) ?_
    replace h := h.1 c10
    refine lv_aload_n hx hb ddX4_carryOut_86 rfl (lv_at hl 0 rfl) ?_
    refine get_0_0 hx hb hown ht hK hS lk109 ddX4_carryOut_87 ?_
    refine lv_iload_n hx hb ddX4_carryOut_90 rfl (lv_at hl 2 rfl) ?_
    refine lv_iload_n hx hb ddX4_carryOut_91 rfl (lv_at hl 3 rfl) ?_
    refine lv_iconst (v := (-1 : Int32)) hx hb ddX4_carryOut_92 (by decide) ?_
    refine k_VV (As := [.int x2, .int x3, .int (-1 : Int32)]) (rest := []) (c_X2_setDuty l X h) mf_X2_setDuty lk599 hx hb hml hown ht hK hZ hS hA 1 1 rfl rfl rfl ⟨rfl, rfl⟩ ⟨Nat.le_of_ble_eq_true rfl, Nat.le_of_ble_eq_true rfl⟩ rfl hl.1 rfl (Nat.le_of_ble_eq_true rfl) ⟨Nat.le_of_ble_eq_true rfl, Nat.le_of_ble_eq_true rfl⟩ ddX4_carryOut_93 (fun σ9 H locs hS h => ?_)
    refine lv_goto (tgt := 149) hx hb ddX4_carryOut_96 (by decide) ?_
    exact k_vret hx hb hr hlocks hK hS h ddX4_carryOut_149
  replace h := h.2
  by_cases c13 : x1 = (4 : Int32)
  · refine lv_tableIn (off := 98) (tgt := 99) hx hb ddX4_carryOut_1 (by rw [c13]; decide) (by rw [c13]; decide) (by rw [c13]; rfl) (by decide) ?_
    replace h := h.1 c13
    refine lv_aload_n hx hb ddX4_carryOut_99 rfl (lv_at hl 0 rfl) ?_
    refine get_0_0 hx hb hown ht hK hS lk109 ddX4_carryOut_100 ?_
    refine lv_iload_n hx hb ddX4_carryOut_103 rfl (lv_at hl 2 rfl) ?_
    refine lv_iload_n hx hb ddX4_carryOut_104 rfl (lv_at hl 3 rfl) ?_
    refine lv_iload hx hb ddX4_carryOut_105 (lv_at hl 4 rfl) ?_
    refine k_VI (As := [.int x2, .int x3, .int x4]) (rest := []) (c_X2_addLeave l X h) mf_X2_addLeave lk770 hx hb hml hown ht hK hZ hS hA 1 1 rfl rfl rfl ⟨rfl, rfl⟩ ⟨Nat.le_of_ble_eq_true rfl, Nat.le_of_ble_eq_true rfl⟩ rfl hl.1 rfl (Nat.le_of_ble_eq_true rfl) ⟨Nat.le_of_ble_eq_true rfl, Nat.le_of_ble_eq_true rfl⟩ ddX4_carryOut_107 (fun r12 σ11 H locs hS h => ?_)
    refine lv_pop hx hb ddX4_carryOut_110 rfl ?_
    refine lv_goto (tgt := 149) hx hb ddX4_carryOut_111 (by decide) ?_
    exact k_vret hx hb hr hlocks hK hS h ddX4_carryOut_149
  replace h := h.2
  by_cases c16 : x1 = (5 : Int32)
  · refine lv_tableIn (off := 113) (tgt := 114) hx hb ddX4_carryOut_1 (by rw [c16]; decide) (by rw [c16]; decide) (by rw [c16]; rfl) (by decide) ?_
    replace h := h.1 c16
    refine lv_aload_n hx hb ddX4_carryOut_114 rfl (lv_at hl 0 rfl) ?_
    refine get_0_0 hx hb hown ht hK hS lk109 ddX4_carryOut_115 ?_
    refine lv_iload_n hx hb ddX4_carryOut_118 rfl (lv_at hl 2 rfl) ?_
    refine k_VI (As := [.int x2]) (rest := []) (c_X2_fill l X h) mf_X2_fill lk653 hx hb hml hown ht hK hZ hS hA 1 1 rfl rfl rfl ⟨rfl, rfl⟩ ⟨Nat.le_of_ble_eq_true rfl, Nat.le_of_ble_eq_true rfl⟩ rfl hl.1 rfl (Nat.le_of_ble_eq_true rfl) ⟨Nat.le_of_ble_eq_true rfl, Nat.le_of_ble_eq_true rfl⟩ ddX4_carryOut_119 (fun r15 σ14 H locs hS h => ?_)
    refine lv_pop hx hb ddX4_carryOut_122 rfl ?_
    refine lv_goto (tgt := 149) hx hb ddX4_carryOut_123 (by decide) ?_
    exact k_vret hx hb hr hlocks hK hS h ddX4_carryOut_149
  replace h := h.2
  by_cases c18 : x1 = (6 : Int32)
  · refine lv_tableIn (off := 125) (tgt := 126) hx hb ddX4_carryOut_1 (by rw [c18]; decide) (by rw [c18]; decide) (by rw [c18]; rfl) (by decide) ?_
    replace h := h.1 c18
    refine lv_aload_n hx hb ddX4_carryOut_126 rfl (lv_at hl 0 rfl) ?_
    refine get_0_0 hx hb hown ht hK hS lk109 ddX4_carryOut_127 ?_
    refine lv_iload_n hx hb ddX4_carryOut_130 rfl (lv_at hl 2 rfl) ?_
    refine k_VV (As := [.int x2]) (rest := []) (c_X2_store l X h) mf_X2_store lk818 hx hb hml hown ht hK hZ hS hA 1 1 rfl rfl rfl ⟨rfl, rfl⟩ ⟨Nat.le_of_ble_eq_true rfl, Nat.le_of_ble_eq_true rfl⟩ rfl hl.1 rfl (Nat.le_of_ble_eq_true rfl) ⟨Nat.le_of_ble_eq_true rfl, Nat.le_of_ble_eq_true rfl⟩ ddX4_carryOut_131 (fun σ17 H locs hS h => ?_)
    refine lv_goto (tgt := 149) hx hb ddX4_carryOut_134 (by decide) ?_
    exact k_vret hx hb hr hlocks hK hS h ddX4_carryOut_149
  replace h := h.2
  by_cases c21 : x1 = (7 : Int32)
  · refine lv_tableIn (off := 136) (tgt := 137) hx hb ddX4_carryOut_1 (by rw [c21]; decide) (by rw [c21]; decide) (by rw [c21]; rfl) (by decide) ?_
    replace h := h.1 c21
    refine lv_aload_n hx hb ddX4_carryOut_137 rfl (lv_at hl 0 rfl) ?_
    refine get_0_0 hx hb hown ht hK hS lk109 ddX4_carryOut_138 ?_
    refine lv_iload_n hx hb ddX4_carryOut_141 rfl (lv_at hl 2 rfl) ?_
    refine k_VI (As := [.int x2]) (rest := []) (c_X2_letPass l X h) mf_X2_letPass lk833 hx hb hml hown ht hK hZ hS hA 1 1 rfl rfl rfl ⟨rfl, rfl⟩ ⟨Nat.le_of_ble_eq_true rfl, Nat.le_of_ble_eq_true rfl⟩ rfl hl.1 rfl (Nat.le_of_ble_eq_true rfl) ⟨Nat.le_of_ble_eq_true rfl, Nat.le_of_ble_eq_true rfl⟩ ddX4_carryOut_142 (fun r20 σ19 H locs hS h => ?_)
    refine lv_pop hx hb ddX4_carryOut_145 rfl ?_
    refine lv_goto (tgt := 149) hx hb ddX4_carryOut_146 (by decide) ?_
    exact k_vret hx hb hr hlocks hK hS h ddX4_carryOut_149
  replace h := h.2
  refine lv_tableOut (tgt := 149) hx hb ddX4_carryOut_1 (by have := ne_toInt c3 (a := 0) rfl; have := ne_toInt c6 (a := 1) rfl; have := ne_toInt c8 (a := 2) rfl; have := ne_toInt c10 (a := 3) rfl; have := ne_toInt c13 (a := 4) rfl; have := ne_toInt c16 (a := 5) rfl; have := ne_toInt c18 (a := 6) rfl; have := ne_toInt c21 (a := 7) rfl; omega) (by decide) ?_
  replace h := h c3 c6 c8 c10 c13 c16 c18 c21
  exact k_vret hx hb hr hlocks hK hS h ddX4_carryOut_149

set_option maxHeartbeats 4000000 in
set_option maxRecDepth 100000 in
theorem c_X4_runs (l : Launch) (X : GX) {x1 : Int32} {σ : Mem} {K : Int32 → Mem → Prop} (h : wp_X4_runs x1 σ K) : MI l X yX4_runs cX4_runs 6 ((Option.some Jvm.ClassFile.FieldType.boolean)) ({ frames := 6, cells := 0, slots := 0, locals := 141 } : Room) [.ref (ga X 0), .int x1] σ K := by
  refine ent_met (QQ := fun A => va_Qi K (BW X A) A) (by decide) (Nat.le_of_ble_eq_true rfl) ?_
  intro p e s m args below meth c A ls hx hb hr hlocks hml hown ht hK hZ hA hS hl
  have hown : s.vm.findClass "GuardRoster" = some m.cls := hown
  have hl : lv_has ls 6 [(0, .ref (ga X 0)), (1, .int x1)] := hl
  unfold wp_X4_runs at h
  refine lv_aload_n hx hb ddX4_runs_0 rfl (lv_at hl 0 rfl) ?_
  refine get_0_3 hx hb hown ht hK hS lk112 ddX4_runs_1 ?_
  refine lv_iload_n hx hb ddX4_runs_4 rfl (lv_at hl 1 rfl) ?_
  refine k_VI (As := [.int x1]) (rest := []) (c_X0_kind l X h) mf_X0_kind lk1050 hx hb hml hown ht hK hZ hS hA 19 4 rfl rfl rfl ⟨rfl, rfl⟩ ⟨Nat.le_of_ble_eq_true rfl, Nat.le_of_ble_eq_true rfl⟩ rfl hl.1 rfl (Nat.le_of_ble_eq_true rfl) ⟨Nat.le_of_ble_eq_true rfl, Nat.le_of_ble_eq_true rfl⟩ ddX4_runs_5 (fun r2 σ1 H locs hS h => ?_)
  refine lv_istore_n (lv' := [(2, .int r2), (0, .ref (ga X 0)), (1, .int x1)]) hx hb ddX4_runs_8 rfl hl (by decide) rfl (fun ls hl => ?_)
  refine lv_aload_n hx hb ddX4_runs_9 rfl (lv_at hl 1 rfl) ?_
  refine get_0_3 hx hb hown ht hK hS lk112 ddX4_runs_10 ?_
  refine lv_iload_n hx hb ddX4_runs_13 rfl (lv_at hl 2 rfl) ?_
  refine lv_iconst (v := (0 : Int32)) hx hb ddX4_runs_14 (by decide) ?_
  refine k_VI (As := [.int x1, .int (0 : Int32)]) (rest := []) (c_X0_value l X h) mf_X0_value lk1054 hx hb hml hown ht hK hZ hS hA 19 4 rfl rfl rfl ⟨rfl, rfl⟩ ⟨Nat.le_of_ble_eq_true rfl, Nat.le_of_ble_eq_true rfl⟩ rfl hl.1 rfl (Nat.le_of_ble_eq_true rfl) ⟨Nat.le_of_ble_eq_true rfl, Nat.le_of_ble_eq_true rfl⟩ ddX4_runs_15 (fun r4 σ3 H locs hS h => ?_)
  refine lv_istore_n (lv' := [(3, .int r4), (2, .int r2), (0, .ref (ga X 0)), (1, .int x1)]) hx hb ddX4_runs_18 rfl hl (by decide) rfl (fun ls hl => ?_)
  refine lv_aload_n hx hb ddX4_runs_19 rfl (lv_at hl 2 rfl) ?_
  refine get_0_3 hx hb hown ht hK hS lk112 ddX4_runs_20 ?_
  refine lv_iload_n hx hb ddX4_runs_23 rfl (lv_at hl 3 rfl) ?_
  refine lv_iconst (v := (1 : Int32)) hx hb ddX4_runs_24 (by decide) ?_
  refine k_VI (As := [.int x1, .int (1 : Int32)]) (rest := []) (c_X0_value l X h) mf_X0_value lk1054 hx hb hml hown ht hK hZ hS hA 19 4 rfl rfl rfl ⟨rfl, rfl⟩ ⟨Nat.le_of_ble_eq_true rfl, Nat.le_of_ble_eq_true rfl⟩ rfl hl.1 rfl (Nat.le_of_ble_eq_true rfl) ⟨Nat.le_of_ble_eq_true rfl, Nat.le_of_ble_eq_true rfl⟩ ddX4_runs_25 (fun r6 σ5 H locs hS h => ?_)
  refine lv_istore (lv' := [(4, .int r6), (3, .int r4), (2, .int r2), (0, .ref (ga X 0)), (1, .int x1)]) hx hb ddX4_runs_28 hl (by decide) rfl (fun ls hl => ?_)
  refine lv_aload_n hx hb ddX4_runs_30 rfl (lv_at hl 3 rfl) ?_
  refine get_0_3 hx hb hown ht hK hS lk112 ddX4_runs_31 ?_
  refine lv_iload_n hx hb ddX4_runs_34 rfl (lv_at hl 4 rfl) ?_
  refine lv_iconst (v := (2 : Int32)) hx hb ddX4_runs_35 (by decide) ?_
  refine k_VI (As := [.int x1, .int (2 : Int32)]) (rest := []) (c_X0_value l X h) mf_X0_value lk1054 hx hb hml hown ht hK hZ hS hA 19 4 rfl rfl rfl ⟨rfl, rfl⟩ ⟨Nat.le_of_ble_eq_true rfl, Nat.le_of_ble_eq_true rfl⟩ rfl hl.1 rfl (Nat.le_of_ble_eq_true rfl) ⟨Nat.le_of_ble_eq_true rfl, Nat.le_of_ble_eq_true rfl⟩ ddX4_runs_36 (fun r8 σ7 H locs hS h => ?_)
  refine lv_istore (lv' := [(5, .int r8), (4, .int r6), (3, .int r4), (2, .int r2), (0, .ref (ga X 0)), (1, .int x1)]) hx hb ddX4_runs_39 hl (by decide) rfl (fun ls hl => ?_)
  refine lv_aload_n hx hb ddX4_runs_41 rfl (lv_at hl 4 rfl) ?_
  refine lv_iload_n hx hb ddX4_runs_42 rfl (lv_at hl 3 rfl) ?_
  refine lv_iload_n hx hb ddX4_runs_43 rfl (lv_at hl 2 rfl) ?_
  refine lv_iload hx hb ddX4_runs_44 (lv_at hl 1 rfl) ?_
  refine lv_iload hx hb ddX4_runs_46 (lv_at hl 0 rfl) ?_
  refine k_VI (As := [.int r2, .int r4, .int r6, .int r8]) (rest := []) (c_X4_problemOfCommand l X h) mf_X4_problemOfCommand lk1058 hx hb hml hown ht hK hZ hS hA 0 0 rfl rfl rfl ⟨rfl, rfl⟩ ⟨Nat.le_of_ble_eq_true rfl, Nat.le_of_ble_eq_true rfl⟩ rfl hl.1 rfl (Nat.le_of_ble_eq_true rfl) ⟨Nat.le_of_ble_eq_true rfl, Nat.le_of_ble_eq_true rfl⟩ ddX4_runs_48 (fun r10 σ9 H locs hS h => ?_)
  refine lv_if_eq (tgt := 56) hx hb ddX4_runs_51 (by decide) (fun c11 => ?_) (fun c11 => ?_)
  · replace h := h.1 c11
    refine lv_aload_n hx hb ddX4_runs_56 rfl (lv_at hl 4 rfl) ?_
    refine lv_iload_n hx hb ddX4_runs_57 rfl (lv_at hl 3 rfl) ?_
    refine lv_iload_n hx hb ddX4_runs_58 rfl (lv_at hl 2 rfl) ?_
    refine lv_iload hx hb ddX4_runs_59 (lv_at hl 1 rfl) ?_
    refine lv_iload hx hb ddX4_runs_61 (lv_at hl 0 rfl) ?_
    refine k_VV (As := [.int r2, .int r4, .int r6, .int r8]) (rest := []) (c_X4_carryOut l X h) mf_X4_carryOut lk1062 hx hb hml hown ht hK hZ hS hA 0 0 rfl rfl rfl ⟨rfl, rfl⟩ ⟨Nat.le_of_ble_eq_true rfl, Nat.le_of_ble_eq_true rfl⟩ rfl hl.1 rfl (Nat.le_of_ble_eq_true rfl) ⟨Nat.le_of_ble_eq_true rfl, Nat.le_of_ble_eq_true rfl⟩ ddX4_runs_63 (fun σ12 H locs hS h => ?_)
    refine lv_iconst (v := (1 : Int32)) hx hb ddX4_runs_66 (by decide) ?_
    exact k_zret hx hb hr hlocks hK hS rfl h ddX4_runs_67
  · replace h := h.2 c11
    refine lv_iconst (v := (0 : Int32)) hx hb ddX4_runs_54 (by decide) ?_
    exact k_zret hx hb hr hlocks hK hS rfl h ddX4_runs_55

set_option maxHeartbeats 4000000 in
set_option maxRecDepth 100000 in
theorem c_X4_put (l : Launch) (X : GX) {x1 : Int32} {σ : Mem} {K : Mem → Prop} (h : wp_X4_put x1 σ K) : MV l X yX4_put cX4_put 2 ((Option.none : Option Jvm.ClassFile.FieldType)) ({ frames := 0, cells := 0, slots := 0, locals := 0 } : Room) [.ref (ga X 0), .int x1] σ K := by
  refine ent_met (QQ := fun A => va_Qv K (BW X A) A) (by decide) (Nat.le_of_ble_eq_true rfl) ?_
  intro p e s m args below meth c A ls hx hb hr hlocks hml hown ht hK hZ hA hS hl
  have hown : s.vm.findClass "GuardRoster" = some m.cls := hown
  have hl : lv_has ls 2 [(0, .ref (ga X 0)), (1, .int x1)] := hl
  unfold wp_X4_put at h
  refine lv_aload_n hx hb ddX4_put_0 rfl (lv_at hl 0 rfl) ?_
  refine get_0_7 hx hb hown ht hK hS lk116 ddX4_put_1 ?_
  refine lv_if_lt (tgt := 36) hx hb ddX4_put_4 (by decide) (fun c1 => ?_) (fun c1 => ?_)
  · replace h := h.1 c1
    exact k_vret hx hb hr hlocks hK hS h ddX4_put_36
  · replace h := h.2 c1
    refine lv_aload_n hx hb ddX4_put_7 rfl (lv_at hl 0 rfl) ?_
    refine get_0_7 hx hb hown ht hK hS lk116 ddX4_put_8 ?_
    refine lv_bipush (v := (28 : Int32)) hx hb ddX4_put_11 (by decide) ?_
    refine lv_icmp_ge (tgt := 36) hx hb ddX4_put_13 (by decide) (fun c2 => ?_) (fun c2 => ?_)
    · replace h := h.1 c2
      exact k_vret hx hb hr hlocks hK hS h ddX4_put_36
    · replace h := h.2 c2
      refine lv_aload_n hx hb ddX4_put_16 rfl (lv_at hl 0 rfl) ?_
      refine get_0_6 hx hb hown ht hK hS lk115 ddX4_put_17 ?_
      refine lv_aload_n hx hb ddX4_put_20 rfl (lv_at hl 0 rfl) ?_
      refine get_0_7 hx hb hown ht hK hS lk116 ddX4_put_21 ?_
      refine lv_iload_n hx hb ddX4_put_24 rfl (lv_at hl 1 rfl) ?_
      refine ast_24 hx hb hK hS h.1 ddX4_put_25 (fun H locs hS => ?_)
      replace h := h.2
      obtain ⟨σ3, eσ3⟩ : ∃ y : Mem, y = (st σ 24 (σ 0 7).toNatClampNeg (vp_nar .char x1)) := ⟨_, rfl⟩
      rw [← eσ3] at hS
      replace h := h σ3 eσ3
      refine lv_aload_n hx hb ddX4_put_26 rfl (lv_at hl 0 rfl) ?_
      refine lv_dup hx hb ddX4_put_27 rfl ?_
      refine get_0_7 hx hb hown ht hK hS lk116 ddX4_put_28 ?_
      refine lv_iconst (v := (1 : Int32)) hx hb ddX4_put_31 (by decide) ?_
      refine lv_iadd hx hb ddX4_put_32 ?_
      refine put_0_7 hx hb hown ht hK hS lk116 ddX4_put_33 (fun H locs hS => ?_)
      obtain ⟨σ4, eσ4⟩ : ∃ y : Mem, y = (st σ3 0 7 ((σ3 0 7) + (1 : Int32))) := ⟨_, rfl⟩
      rw [← eσ4] at hS
      replace h := h σ4 eσ4
      exact k_vret hx hb hr hlocks hK hS h ddX4_put_36

set_option maxHeartbeats 4000000 in
set_option maxRecDepth 100000 in
theorem c_X4_putNumber (l : Launch) (X : GX) {x1 : Int32} {σ : Mem} {K : Mem → Prop} (h : wp_X4_putNumber x1 σ K) : MV l X yX4_putNumber cX4_putNumber 2 ((Option.none : Option Jvm.ClassFile.FieldType)) ({ frames := 1, cells := 0, slots := 0, locals := 21 } : Room) [.ref (ga X 0), .int x1] σ K := by
  refine ent_met (QQ := fun A => va_Qv K (BW X A) A) (by decide) (Nat.le_of_ble_eq_true rfl) ?_
  intro p e s m args below meth c A ls hx hb hr hlocks hml hown ht hK hZ hA hS hl
  have hown : s.vm.findClass "GuardRoster" = some m.cls := hown
  have hl : lv_has ls 2 [(0, .ref (ga X 0)), (1, .int x1)] := hl
  have hJ18 : ∀ (x1 : Int32) (σ : Mem) (H : Heap) (locs : List Loc) (ls : Array Slot), WS X A s.heap σ H locs → lv_has ls 2 [(0, .ref (ga X 0)), (1, .int x1)] → wpJ_X4_putNumber_18 K x1 σ → WV X K p l e ({ frames := 1, cells := 0, slots := 0, locals := 21 } : Room) s m args below meth c A H locs (F0 m 18 ls []) := by
    intro x1 σ H locs ls hS hl h
    unfold wpJ_X4_putNumber_18 at h
    refine lv_aload_n hx hb ddX4_putNumber_18 rfl (lv_at hl 0 rfl) ?_
    refine lv_bipush (v := (48 : Int32)) hx hb ddX4_putNumber_19 (by decide) ?_
    refine lv_iload_n hx hb ddX4_putNumber_21 rfl (lv_at hl 1 rfl) ?_
    refine lv_bipush (v := (10 : Int32)) hx hb ddX4_putNumber_22 (by decide) ?_
    refine lv_irem hx hb ddX4_putNumber_24 (by decide) ?_
    refine lv_iadd hx hb ddX4_putNumber_25 ?_
    refine lv_i2c hx hb ddX4_putNumber_26 rfl ?_
    refine k_VV (As := [.int ((((48 : Int32) + (x1 - x1 / (10 : Int32) * (10 : Int32))).toUInt32 % 65536).toInt32)]) (rest := []) (c_X4_put l X h) mf_X4_put lk899 hx hb hml hown ht hK hZ hS hA 0 0 rfl rfl rfl ⟨rfl, rfl⟩ ⟨Nat.le_of_ble_eq_true rfl, Nat.le_of_ble_eq_true rfl⟩ rfl hl.1 rfl (Nat.le_of_ble_eq_true rfl) ⟨Nat.le_of_ble_eq_true rfl, Nat.le_of_ble_eq_true rfl⟩ ddX4_putNumber_27 (fun σ2 H locs hS h => ?_)
    exact k_vret hx hb hr hlocks hK hS h ddX4_putNumber_30
  unfold wp_X4_putNumber at h
  refine lv_iload_n hx hb ddX4_putNumber_0 rfl (lv_at hl 1 rfl) ?_
  refine lv_bipush (v := (10 : Int32)) hx hb ddX4_putNumber_1 (by decide) ?_
  refine lv_icmp_lt (tgt := 18) hx hb ddX4_putNumber_3 (by decide) (fun c1 => ?_) (fun c1 => ?_)
  · replace h := h.1 c1
    exact hJ18 _ _ _ _ _ hS (lv_sub hl [0, 1] rfl) h
  · replace h := h.2 c1
    refine lv_aload_n hx hb ddX4_putNumber_6 rfl (lv_at hl 0 rfl) ?_
    refine lv_bipush (v := (48 : Int32)) hx hb ddX4_putNumber_7 (by decide) ?_
    refine lv_iload_n hx hb ddX4_putNumber_9 rfl (lv_at hl 1 rfl) ?_
    refine lv_bipush (v := (10 : Int32)) hx hb ddX4_putNumber_10 (by decide) ?_
    refine lv_idiv hx hb ddX4_putNumber_12 (by decide) ?_
    refine lv_iadd hx hb ddX4_putNumber_13 ?_
    refine lv_i2c hx hb ddX4_putNumber_14 rfl ?_
    refine k_VV (As := [.int ((((48 : Int32) + (x1 / (10 : Int32))).toUInt32 % 65536).toInt32)]) (rest := []) (c_X4_put l X h) mf_X4_put lk899 hx hb hml hown ht hK hZ hS hA 0 0 rfl rfl rfl ⟨rfl, rfl⟩ ⟨Nat.le_of_ble_eq_true rfl, Nat.le_of_ble_eq_true rfl⟩ rfl hl.1 rfl (Nat.le_of_ble_eq_true rfl) ⟨Nat.le_of_ble_eq_true rfl, Nat.le_of_ble_eq_true rfl⟩ ddX4_putNumber_15 (fun σ3 H locs hS h => ?_)
    exact hJ18 _ _ _ _ _ hS (lv_sub hl [0, 1] rfl) h

set_option maxHeartbeats 4000000 in
set_option maxRecDepth 100000 in
theorem c_X4_putNumberOr (l : Launch) (X : GX) {x1 x2 : Int32} {σ : Mem} {K : Mem → Prop} (h : wp_X4_putNumberOr x1 x2 σ K) : MV l X yX4_putNumberOr cX4_putNumberOr 3 ((Option.none : Option Jvm.ClassFile.FieldType)) ({ frames := 2, cells := 0, slots := 0, locals := 42 } : Room) [.ref (ga X 0), .int x1, .int x2] σ K := by
  refine ent_met (QQ := fun A => va_Qv K (BW X A) A) (by decide) (Nat.le_of_ble_eq_true rfl) ?_
  intro p e s m args below meth c A ls hx hb hr hlocks hml hown ht hK hZ hA hS hl
  have hown : s.vm.findClass "GuardRoster" = some m.cls := hown
  have hl : lv_has ls 3 [(0, .ref (ga X 0)), (1, .int x1), (2, .int x2)] := hl
  unfold wp_X4_putNumberOr at h
  refine lv_iload_n hx hb ddX4_putNumberOr_0 rfl (lv_at hl 1 rfl) ?_
  refine lv_iconst (v := (-1 : Int32)) hx hb ddX4_putNumberOr_1 (by decide) ?_
  refine lv_icmp_ne (tgt := 13) hx hb ddX4_putNumberOr_2 (by decide) (fun c1 => ?_) (fun c1 => ?_)
  · replace h := h.1 c1
    refine lv_aload_n hx hb ddX4_putNumberOr_13 rfl (lv_at hl 0 rfl) ?_
    refine lv_iload_n hx hb ddX4_putNumberOr_14 rfl (lv_at hl 1 rfl) ?_
    refine k_VV (As := [.int x1]) (rest := []) (c_X4_putNumber l X h) mf_X4_putNumber lk903 hx hb hml hown ht hK hZ hS hA 0 0 rfl rfl rfl ⟨rfl, rfl⟩ ⟨Nat.le_of_ble_eq_true rfl, Nat.le_of_ble_eq_true rfl⟩ rfl hl.1 rfl (Nat.le_of_ble_eq_true rfl) ⟨Nat.le_of_ble_eq_true rfl, Nat.le_of_ble_eq_true rfl⟩ ddX4_putNumberOr_15 (fun σ2 H locs hS h => ?_)
    exact k_vret hx hb hr hlocks hK hS h ddX4_putNumberOr_18
  · replace h := h.2 c1
    refine lv_aload_n hx hb ddX4_putNumberOr_5 rfl (lv_at hl 0 rfl) ?_
    refine lv_iload_n hx hb ddX4_putNumberOr_6 rfl (lv_at hl 2 rfl) ?_
    refine k_VV (As := [.int x2]) (rest := []) (c_X4_put l X h) mf_X4_put lk899 hx hb hml hown ht hK hZ hS hA 0 0 rfl rfl rfl ⟨rfl, rfl⟩ ⟨Nat.le_of_ble_eq_true rfl, Nat.le_of_ble_eq_true rfl⟩ rfl hl.1 rfl (Nat.le_of_ble_eq_true rfl) ⟨Nat.le_of_ble_eq_true rfl, Nat.le_of_ble_eq_true rfl⟩ ddX4_putNumberOr_7 (fun σ3 H locs hS h => ?_)
    refine lv_goto (tgt := 18) hx hb ddX4_putNumberOr_10 (by decide) ?_
    exact k_vret hx hb hr hlocks hK hS h ddX4_putNumberOr_18

set_option maxHeartbeats 4000000 in
set_option maxRecDepth 100000 in
theorem c_X4_gateCount (l : Launch) (X : GX) {σ : Mem} {K : Int32 → Mem → Prop} (h : wp_X4_gateCount σ K) : MI l X yX4_gateCount cX4_gateCount 1 ((Option.some Jvm.ClassFile.FieldType.int)) ({ frames := 1, cells := 0, slots := 0, locals := 20 } : Room) [.ref (ga X 0)] σ K := by
  refine ent_met (QQ := fun A => va_Qi K (BW X A) A) (by decide) (Nat.le_of_ble_eq_true rfl) ?_
  intro p e s m args below meth c A ls hx hb hr hlocks hml hown ht hK hZ hA hS hl
  have hown : s.vm.findClass "GuardRoster" = some m.cls := hown
  have hl : lv_has ls 1 [(0, .ref (ga X 0))] := hl
  unfold wp_X4_gateCount at h
  refine lv_aload_n hx hb ddX4_gateCount_0 rfl (lv_at hl 0 rfl) ?_
  refine get_0_0 hx hb hown ht hK hS lk109 ddX4_gateCount_1 ?_
  refine k_VI (As := []) (rest := []) (c_X2_gates l X h) mf_X2_gates lk150 hx hb hml hown ht hK hZ hS hA 1 1 rfl rfl rfl ⟨rfl, rfl⟩ ⟨Nat.le_of_ble_eq_true rfl, Nat.le_of_ble_eq_true rfl⟩ rfl hl.1 rfl (Nat.le_of_ble_eq_true rfl) ⟨Nat.le_of_ble_eq_true rfl, Nat.le_of_ble_eq_true rfl⟩ ddX4_gateCount_4 (fun r2 σ1 H locs hS h => ?_)
  exact k_iret hx hb hr hlocks hK hS h ddX4_gateCount_7

set_option maxHeartbeats 4000000 in
set_option maxRecDepth 100000 in
theorem c_X4_guardCount (l : Launch) (X : GX) {σ : Mem} {K : Int32 → Mem → Prop} (h : wp_X4_guardCount σ K) : MI l X yX4_guardCount cX4_guardCount 1 ((Option.some Jvm.ClassFile.FieldType.int)) ({ frames := 1, cells := 0, slots := 0, locals := 20 } : Room) [.ref (ga X 0)] σ K := by
  refine ent_met (QQ := fun A => va_Qi K (BW X A) A) (by decide) (Nat.le_of_ble_eq_true rfl) ?_
  intro p e s m args below meth c A ls hx hb hr hlocks hml hown ht hK hZ hA hS hl
  have hown : s.vm.findClass "GuardRoster" = some m.cls := hown
  have hl : lv_has ls 1 [(0, .ref (ga X 0))] := hl
  unfold wp_X4_guardCount at h
  refine lv_aload_n hx hb ddX4_guardCount_0 rfl (lv_at hl 0 rfl) ?_
  refine get_0_0 hx hb hown ht hK hS lk109 ddX4_guardCount_1 ?_
  refine k_VI (As := []) (rest := []) (c_X2_guards l X h) mf_X2_guards lk158 hx hb hml hown ht hK hZ hS hA 1 1 rfl rfl rfl ⟨rfl, rfl⟩ ⟨Nat.le_of_ble_eq_true rfl, Nat.le_of_ble_eq_true rfl⟩ rfl hl.1 rfl (Nat.le_of_ble_eq_true rfl) ⟨Nat.le_of_ble_eq_true rfl, Nat.le_of_ble_eq_true rfl⟩ ddX4_guardCount_4 (fun r2 σ1 H locs hS h => ?_)
  exact k_iret hx hb hr hlocks hK hS h ddX4_guardCount_7

set_option maxHeartbeats 4000000 in
set_option maxRecDepth 100000 in
theorem c_X4_dutyCount (l : Launch) (X : GX) {σ : Mem} {K : Int32 → Mem → Prop} (h : wp_X4_dutyCount σ K) : MI l X yX4_dutyCount cX4_dutyCount 1 ((Option.some Jvm.ClassFile.FieldType.int)) ({ frames := 4, cells := 0, slots := 0, locals := 89 } : Room) [.ref (ga X 0)] σ K := by
  refine ent_met (QQ := fun A => va_Qi K (BW X A) A) (by decide) (Nat.le_of_ble_eq_true rfl) ?_
  intro p e s m args below meth c A ls hx hb hr hlocks hml hown ht hK hZ hA hS hl
  have hown : s.vm.findClass "GuardRoster" = some m.cls := hown
  have hl : lv_has ls 1 [(0, .ref (ga X 0))] := hl
  unfold wp_X4_dutyCount at h
  refine lv_aload_n hx hb ddX4_dutyCount_0 rfl (lv_at hl 0 rfl) ?_
  refine get_0_0 hx hb hown ht hK hS lk109 ddX4_dutyCount_1 ?_
  refine lv_iconst (v := (0 : Int32)) hx hb ddX4_dutyCount_4 (by decide) ?_
  refine k_VI (As := [.int (0 : Int32)]) (rest := []) (c_X2_allDuties l X h) mf_X2_allDuties lk166 hx hb hml hown ht hK hZ hS hA 1 1 rfl rfl rfl ⟨rfl, rfl⟩ ⟨Nat.le_of_ble_eq_true rfl, Nat.le_of_ble_eq_true rfl⟩ rfl hl.1 rfl (Nat.le_of_ble_eq_true rfl) ⟨Nat.le_of_ble_eq_true rfl, Nat.le_of_ble_eq_true rfl⟩ ddX4_dutyCount_5 (fun r2 σ1 H locs hS h => ?_)
  exact k_iret hx hb hr hlocks hK hS h ddX4_dutyCount_8

set_option maxHeartbeats 4000000 in
set_option maxRecDepth 100000 in
theorem c_X4_openPlaces (l : Launch) (X : GX) {σ : Mem} {K : Int32 → Mem → Prop} (h : wp_X4_openPlaces σ K) : MI l X yX4_openPlaces cX4_openPlaces 3 ((Option.some Jvm.ClassFile.FieldType.int)) ({ frames := 3, cells := 0, slots := 0, locals := 66 } : Room) [.ref (ga X 0)] σ K := by
  refine ent_met (QQ := fun A => va_Qi K (BW X A) A) (by decide) (Nat.le_of_ble_eq_true rfl) ?_
  intro p e s m args below meth c A ls hx hb hr hlocks hml hown ht hK hZ hA hS hl
  have hown : s.vm.findClass "GuardRoster" = some m.cls := hown
  have hl : lv_has ls 3 [(0, .ref (ga X 0))] := hl
  have hL4 : ∀ (n : Nat) (x1 x2 : Int32) (σ : Mem) (H : Heap) (locs : List Loc) (ls : Array Slot), WS X A s.heap σ H locs → lv_has ls 3 [(0, .ref (ga X 0)), (1, .int x1), (2, .int x2)] → wlp (wpF_X4_openPlaces_4 K) n (x1, x2, σ) → WI X K p l e ({ frames := 3, cells := 0, slots := 0, locals := 66 } : Room) s m args below meth c A H locs (F0 m 4 ls []) := by
    intro n4
    induction n4 with
    | zero => intro x1 x2 σ H locs ls hS hl h; exact h.elim
    | succ n4 ih4 =>
      intro x1 x2 σ H locs ls hS hl h
      replace h : wpS_X4_openPlaces_4 K (wlp (wpF_X4_openPlaces_4 K) n4) x1 x2 σ := h
      unfold wpS_X4_openPlaces_4 at h
      refine lv_iload_n hx hb ddX4_openPlaces_4 rfl (lv_at hl 2 rfl) ?_
      refine lv_aload_n hx hb ddX4_openPlaces_5 rfl (lv_at hl 0 rfl) ?_
      refine get_0_0 hx hb hown ht hK hS lk109 ddX4_openPlaces_6 ?_
      refine k_VI (As := []) (rest := [.int x2]) (c_X2_gates l X h) mf_X2_gates lk150 hx hb hml hown ht hK hZ hS hA 1 1 rfl rfl rfl ⟨rfl, rfl⟩ ⟨Nat.le_of_ble_eq_true rfl, Nat.le_of_ble_eq_true rfl⟩ rfl hl.1 rfl (Nat.le_of_ble_eq_true rfl) ⟨Nat.le_of_ble_eq_true rfl, Nat.le_of_ble_eq_true rfl⟩ ddX4_openPlaces_9 (fun r2 σ1 H locs hS h => ?_)
      refine lv_icmp_ge (tgt := 32) hx hb ddX4_openPlaces_12 (by decide) (fun c3 => ?_) (fun c3 => ?_)
      · replace h := h.1 c3
        refine lv_iload_n hx hb ddX4_openPlaces_32 rfl (lv_at hl 1 rfl) ?_
        exact k_iret hx hb hr hlocks hK hS h ddX4_openPlaces_33
      · replace h := h.2 c3
        refine lv_iload_n hx hb ddX4_openPlaces_15 rfl (lv_at hl 1 rfl) ?_
        refine lv_aload_n hx hb ddX4_openPlaces_16 rfl (lv_at hl 0 rfl) ?_
        refine get_0_0 hx hb hown ht hK hS lk109 ddX4_openPlaces_17 ?_
        refine lv_iload_n hx hb ddX4_openPlaces_20 rfl (lv_at hl 2 rfl) ?_
        refine k_VI (As := [.int x2]) (rest := [.int x1]) (c_X2_openSlotsOf l X h) mf_X2_openSlotsOf lk194 hx hb hml hown ht hK hZ hS hA 1 1 rfl rfl rfl ⟨rfl, rfl⟩ ⟨Nat.le_of_ble_eq_true rfl, Nat.le_of_ble_eq_true rfl⟩ rfl hl.1 rfl (Nat.le_of_ble_eq_true rfl) ⟨Nat.le_of_ble_eq_true rfl, Nat.le_of_ble_eq_true rfl⟩ ddX4_openPlaces_21 (fun r5 σ4 H locs hS h => ?_)
        refine lv_iadd hx hb ddX4_openPlaces_24 ?_
        refine lv_topi (fun v6 ev6 => ?_)
        replace h := h v6 ev6
        refine lv_istore_n (lv' := [(1, .int v6), (0, .ref (ga X 0)), (2, .int x2)]) hx hb ddX4_openPlaces_25 rfl hl (by decide) rfl (fun ls hl => ?_)
        obtain ⟨v7, ev7⟩ : ∃ y : Int32, y = x2 + (1 : Int32) := ⟨_, rfl⟩
        replace h := h v7 ev7
        refine lv_iinc (v := v7) (lv' := [(2, .int v7), (1, .int v6), (0, .ref (ga X 0))]) hx hb ddX4_openPlaces_26 hl (k := 2) rfl (by rw [ev7]; rfl) (by decide) rfl (fun ls hl => ?_)
        refine lv_goto (tgt := 4) hx hb ddX4_openPlaces_29 (by decide) ?_
        exact ih4 _ _ _ _ _ _ hS (lv_sub hl [2, 1, 0] rfl) h
  unfold wp_X4_openPlaces at h
  refine lv_iconst (v := (0 : Int32)) hx hb ddX4_openPlaces_0 (by decide) ?_
  refine lv_istore_n (lv' := [(1, .int (0 : Int32)), (0, .ref (ga X 0))]) hx hb ddX4_openPlaces_1 rfl hl (by decide) rfl (fun ls hl => ?_)
  refine lv_iconst (v := (0 : Int32)) hx hb ddX4_openPlaces_2 (by decide) ?_
  refine lv_istore_n (lv' := [(2, .int (0 : Int32)), (1, .int (0 : Int32)), (0, .ref (ga X 0))]) hx hb ddX4_openPlaces_3 rfl hl (by decide) rfl (fun ls hl => ?_)
  obtain ⟨n, h⟩ := h
  exact hL4 n _ _ _ _ _ _ hS (lv_sub hl [2, 1, 0] rfl) h

set_option maxHeartbeats 4000000 in
set_option maxRecDepth 100000 in
theorem c_X4_openPlacesBySlots (l : Launch) (X : GX) {σ : Mem} {K : Int32 → Mem → Prop} (h : wp_X4_openPlacesBySlots σ K) : MI l X yX4_openPlacesBySlots cX4_openPlacesBySlots 3 ((Option.some Jvm.ClassFile.FieldType.int)) ({ frames := 3, cells := 0, slots := 0, locals := 66 } : Room) [.ref (ga X 0)] σ K := by
  refine ent_met (QQ := fun A => va_Qi K (BW X A) A) (by decide) (Nat.le_of_ble_eq_true rfl) ?_
  intro p e s m args below meth c A ls hx hb hr hlocks hml hown ht hK hZ hA hS hl
  have hown : s.vm.findClass "GuardRoster" = some m.cls := hown
  have hl : lv_has ls 3 [(0, .ref (ga X 0))] := hl
  have hL10 : ∀ (n : Nat) (x1 x2 : Int32) (σ : Mem) (H : Heap) (locs : List Loc) (ls : Array Slot), WS X A s.heap σ H locs → lv_has ls 3 [(0, .ref (ga X 0)), (1, .int x1), (2, .int x2)] → wlp (wpF_X4_openPlacesBySlots_10 K) n (x1, x2, σ) → WI X K p l e ({ frames := 3, cells := 0, slots := 0, locals := 66 } : Room) s m args below meth c A H locs (F0 m 10 ls []) := by
    intro n10
    induction n10 with
    | zero => intro x1 x2 σ H locs ls hS hl h; exact h.elim
    | succ n10 ih10 =>
      intro x1 x2 σ H locs ls hS hl h
      replace h : wpS_X4_openPlacesBySlots_10 K (wlp (wpF_X4_openPlacesBySlots_10 K) n10) x1 x2 σ := h
      unfold wpS_X4_openPlacesBySlots_10 at h
      refine lv_iload_n hx hb ddX4_openPlacesBySlots_10 rfl (lv_at hl 2 rfl) ?_
      refine lv_bipush (v := (28 : Int32)) hx hb ddX4_openPlacesBySlots_11 (by decide) ?_
      refine lv_icmp_ge (tgt := 33) hx hb ddX4_openPlacesBySlots_13 (by decide) (fun c3 => ?_) (fun c3 => ?_)
      · replace h := h.1 c3
        refine lv_iload_n hx hb ddX4_openPlacesBySlots_33 rfl (lv_at hl 1 rfl) ?_
        exact k_iret hx hb hr hlocks hK hS h ddX4_openPlacesBySlots_34
      · replace h := h.2 c3
        refine lv_iload_n hx hb ddX4_openPlacesBySlots_16 rfl (lv_at hl 1 rfl) ?_
        refine lv_aload_n hx hb ddX4_openPlacesBySlots_17 rfl (lv_at hl 0 rfl) ?_
        refine get_0_0 hx hb hown ht hK hS lk109 ddX4_openPlacesBySlots_18 ?_
        refine lv_iload_n hx hb ddX4_openPlacesBySlots_21 rfl (lv_at hl 2 rfl) ?_
        refine k_VI (As := [.int x2]) (rest := [.int x1]) (c_X2_openGatesIn l X h) mf_X2_openGatesIn lk207 hx hb hml hown ht hK hZ hS hA 1 1 rfl rfl rfl ⟨rfl, rfl⟩ ⟨Nat.le_of_ble_eq_true rfl, Nat.le_of_ble_eq_true rfl⟩ rfl hl.1 rfl (Nat.le_of_ble_eq_true rfl) ⟨Nat.le_of_ble_eq_true rfl, Nat.le_of_ble_eq_true rfl⟩ ddX4_openPlacesBySlots_22 (fun r5 σ4 H locs hS h => ?_)
        refine lv_iadd hx hb ddX4_openPlacesBySlots_25 ?_
        refine lv_topi (fun v6 ev6 => ?_)
        replace h := h v6 ev6
        refine lv_istore_n (lv' := [(1, .int v6), (0, .ref (ga X 0)), (2, .int x2)]) hx hb ddX4_openPlacesBySlots_26 rfl hl (by decide) rfl (fun ls hl => ?_)
        obtain ⟨v7, ev7⟩ : ∃ y : Int32, y = x2 + (1 : Int32) := ⟨_, rfl⟩
        replace h := h v7 ev7
        refine lv_iinc (v := v7) (lv' := [(2, .int v7), (1, .int v6), (0, .ref (ga X 0))]) hx hb ddX4_openPlacesBySlots_27 hl (k := 2) rfl (by rw [ev7]; rfl) (by decide) rfl (fun ls hl => ?_)
        refine lv_goto (tgt := 10) hx hb ddX4_openPlacesBySlots_30 (by decide) ?_
        exact ih10 _ _ _ _ _ _ hS (lv_sub hl [2, 1, 0] rfl) h
  unfold wp_X4_openPlacesBySlots at h
  refine lv_iconst (v := (0 : Int32)) hx hb ddX4_openPlacesBySlots_0 (by decide) ?_
  refine lv_istore_n (lv' := [(1, .int (0 : Int32)), (0, .ref (ga X 0))]) hx hb ddX4_openPlacesBySlots_1 rfl hl (by decide) rfl (fun ls hl => ?_)
  refine lv_aload_n hx hb ddX4_openPlacesBySlots_2 rfl (lv_at hl 1 rfl) ?_
  refine get_0_0 hx hb hown ht hK hS lk109 ddX4_openPlacesBySlots_3 ?_
  refine k_VI (As := []) (rest := []) (c_X2_now l X h) mf_X2_now lk206 hx hb hml hown ht hK hZ hS hA 1 1 rfl rfl rfl ⟨rfl, rfl⟩ ⟨Nat.le_of_ble_eq_true rfl, Nat.le_of_ble_eq_true rfl⟩ rfl hl.1 rfl (Nat.le_of_ble_eq_true rfl) ⟨Nat.le_of_ble_eq_true rfl, Nat.le_of_ble_eq_true rfl⟩ ddX4_openPlacesBySlots_6 (fun r2 σ1 H locs hS h => ?_)
  refine lv_istore_n (lv' := [(2, .int r2), (1, .int (0 : Int32)), (0, .ref (ga X 0))]) hx hb ddX4_openPlacesBySlots_9 rfl hl (by decide) rfl (fun ls hl => ?_)
  obtain ⟨n, h⟩ := h
  exact hL10 n _ _ _ _ _ _ hS (lv_sub hl [2, 1, 0] rfl) h

set_option maxHeartbeats 4000000 in
set_option maxRecDepth 100000 in
theorem c_X4_rations (l : Launch) (X : GX) {σ : Mem} {K : Int32 → Mem → Prop} (h : wp_X4_rations σ K) : MI l X yX4_rations cX4_rations 1 ((Option.some Jvm.ClassFile.FieldType.int)) ({ frames := 1, cells := 0, slots := 0, locals := 20 } : Room) [.ref (ga X 0)] σ K := by
  refine ent_met (QQ := fun A => va_Qi K (BW X A) A) (by decide) (Nat.le_of_ble_eq_true rfl) ?_
  intro p e s m args below meth c A ls hx hb hr hlocks hml hown ht hK hZ hA hS hl
  have hown : s.vm.findClass "GuardRoster" = some m.cls := hown
  have hl : lv_has ls 1 [(0, .ref (ga X 0))] := hl
  unfold wp_X4_rations at h
  refine lv_aload_n hx hb ddX4_rations_0 rfl (lv_at hl 0 rfl) ?_
  refine get_0_0 hx hb hown ht hK hS lk109 ddX4_rations_1 ?_
  refine k_VI (As := []) (rest := []) (c_X2_rationsLeft l X h) mf_X2_rationsLeft lk212 hx hb hml hown ht hK hZ hS hA 1 1 rfl rfl rfl ⟨rfl, rfl⟩ ⟨Nat.le_of_ble_eq_true rfl, Nat.le_of_ble_eq_true rfl⟩ rfl hl.1 rfl (Nat.le_of_ble_eq_true rfl) ⟨Nat.le_of_ble_eq_true rfl, Nat.le_of_ble_eq_true rfl⟩ ddX4_rations_4 (fun r2 σ1 H locs hS h => ?_)
  exact k_iret hx hb hr hlocks hK hS h ddX4_rations_7

set_option maxHeartbeats 4000000 in
set_option maxRecDepth 100000 in
theorem c_X4_currentSlot (l : Launch) (X : GX) {σ : Mem} {K : Int32 → Mem → Prop} (h : wp_X4_currentSlot σ K) : MI l X yX4_currentSlot cX4_currentSlot 1 ((Option.some Jvm.ClassFile.FieldType.int)) ({ frames := 1, cells := 0, slots := 0, locals := 20 } : Room) [.ref (ga X 0)] σ K := by
  refine ent_met (QQ := fun A => va_Qi K (BW X A) A) (by decide) (Nat.le_of_ble_eq_true rfl) ?_
  intro p e s m args below meth c A ls hx hb hr hlocks hml hown ht hK hZ hA hS hl
  have hown : s.vm.findClass "GuardRoster" = some m.cls := hown
  have hl : lv_has ls 1 [(0, .ref (ga X 0))] := hl
  unfold wp_X4_currentSlot at h
  refine lv_aload_n hx hb ddX4_currentSlot_0 rfl (lv_at hl 0 rfl) ?_
  refine get_0_0 hx hb hown ht hK hS lk109 ddX4_currentSlot_1 ?_
  refine k_VI (As := []) (rest := []) (c_X2_now l X h) mf_X2_now lk206 hx hb hml hown ht hK hZ hS hA 1 1 rfl rfl rfl ⟨rfl, rfl⟩ ⟨Nat.le_of_ble_eq_true rfl, Nat.le_of_ble_eq_true rfl⟩ rfl hl.1 rfl (Nat.le_of_ble_eq_true rfl) ⟨Nat.le_of_ble_eq_true rfl, Nat.le_of_ble_eq_true rfl⟩ ddX4_currentSlot_4 (fun r2 σ1 H locs hS h => ?_)
  exact k_iret hx hb hr hlocks hK hS h ddX4_currentSlot_7

set_option maxHeartbeats 4000000 in
set_option maxRecDepth 100000 in
theorem c_X4_missingRations (l : Launch) (X : GX) {σ : Mem} {K : Int32 → Mem → Prop} (h : wp_X4_missingRations σ K) : MI l X yX4_missingRations cX4_missingRations 1 ((Option.some Jvm.ClassFile.FieldType.int)) ({ frames := 4, cells := 0, slots := 0, locals := 89 } : Room) [.ref (ga X 0)] σ K := by
  refine ent_met (QQ := fun A => va_Qi K (BW X A) A) (by decide) (Nat.le_of_ble_eq_true rfl) ?_
  intro p e s m args below meth c A ls hx hb hr hlocks hml hown ht hK hZ hA hS hl
  have hown : s.vm.findClass "GuardRoster" = some m.cls := hown
  have hl : lv_has ls 1 [(0, .ref (ga X 0))] := hl
  unfold wp_X4_missingRations at h
  refine lv_iconst (v := (0 : Int32)) hx hb ddX4_missingRations_0 (by decide) ?_
  refine lv_aload_n hx hb ddX4_missingRations_1 rfl (lv_at hl 0 rfl) ?_
  refine get_0_0 hx hb hown ht hK hS lk109 ddX4_missingRations_2 ?_
  refine lv_aload_n hx hb ddX4_missingRations_5 rfl (lv_at hl 0 rfl) ?_
  refine get_0_0 hx hb hown ht hK hS lk109 ddX4_missingRations_6 ?_
  refine k_VI (As := []) (rest := [.ref (ga X 1), .int (0 : Int32)]) (c_X2_now l X h) mf_X2_now lk206 hx hb hml hown ht hK hZ hS hA 1 1 rfl rfl rfl ⟨rfl, rfl⟩ ⟨Nat.le_of_ble_eq_true rfl, Nat.le_of_ble_eq_true rfl⟩ rfl hl.1 rfl (Nat.le_of_ble_eq_true rfl) ⟨Nat.le_of_ble_eq_true rfl, Nat.le_of_ble_eq_true rfl⟩ ddX4_missingRations_9 (fun r2 σ1 H locs hS h => ?_)
  refine k_VI (As := [.int r2]) (rest := [.int (0 : Int32)]) (c_X2_allDuties l X h) mf_X2_allDuties lk166 hx hb hml hown ht hK hZ hS hA 1 1 rfl rfl rfl ⟨rfl, rfl⟩ ⟨Nat.le_of_ble_eq_true rfl, Nat.le_of_ble_eq_true rfl⟩ rfl hl.1 rfl (Nat.le_of_ble_eq_true rfl) ⟨Nat.le_of_ble_eq_true rfl, Nat.le_of_ble_eq_true rfl⟩ ddX4_missingRations_12 (fun r4 σ3 H locs hS h => ?_)
  refine lv_aload_n hx hb ddX4_missingRations_15 rfl (lv_at hl 0 rfl) ?_
  refine get_0_0 hx hb hown ht hK hS lk109 ddX4_missingRations_16 ?_
  refine k_VI (As := []) (rest := [.int r4, .int (0 : Int32)]) (c_X2_rationsLeft l X h) mf_X2_rationsLeft lk212 hx hb hml hown ht hK hZ hS hA 1 1 rfl rfl rfl ⟨rfl, rfl⟩ ⟨Nat.le_of_ble_eq_true rfl, Nat.le_of_ble_eq_true rfl⟩ rfl hl.1 rfl (Nat.le_of_ble_eq_true rfl) ⟨Nat.le_of_ble_eq_true rfl, Nat.le_of_ble_eq_true rfl⟩ ddX4_missingRations_19 (fun r6 σ5 H locs hS h => ?_)
  refine lv_isub hx hb ddX4_missingRations_22 ?_
  refine k_max hx hb (hml.trans hl.1.symm) hown ht lk224 (Nat.le_of_ble_eq_true rfl) (Nat.le_of_ble_eq_true rfl) ddX4_missingRations_23 ?_
  exact k_iret hx hb hr hlocks hK hS h ddX4_missingRations_26

set_option maxHeartbeats 4000000 in
set_option maxRecDepth 100000 in
theorem c_X4_undoCount (l : Launch) (X : GX) {σ : Mem} {K : Int32 → Mem → Prop} (h : wp_X4_undoCount σ K) : MI l X yX4_undoCount cX4_undoCount 1 ((Option.some Jvm.ClassFile.FieldType.int)) ({ frames := 1, cells := 0, slots := 0, locals := 20 } : Room) [.ref (ga X 0)] σ K := by
  refine ent_met (QQ := fun A => va_Qi K (BW X A) A) (by decide) (Nat.le_of_ble_eq_true rfl) ?_
  intro p e s m args below meth c A ls hx hb hr hlocks hml hown ht hK hZ hA hS hl
  have hown : s.vm.findClass "GuardRoster" = some m.cls := hown
  have hl : lv_has ls 1 [(0, .ref (ga X 0))] := hl
  unfold wp_X4_undoCount at h
  refine lv_aload_n hx hb ddX4_undoCount_0 rfl (lv_at hl 0 rfl) ?_
  refine get_0_1 hx hb hown ht hK hS lk110 ddX4_undoCount_1 ?_
  refine k_VI (As := []) (rest := []) (c_X1_size l X h) mf_X1_size lk380 hx hb hml hown ht hK hZ hS hA 4 2 rfl rfl rfl ⟨rfl, rfl⟩ ⟨Nat.le_of_ble_eq_true rfl, Nat.le_of_ble_eq_true rfl⟩ rfl hl.1 rfl (Nat.le_of_ble_eq_true rfl) ⟨Nat.le_of_ble_eq_true rfl, Nat.le_of_ble_eq_true rfl⟩ ddX4_undoCount_4 (fun r2 σ1 H locs hS h => ?_)
  exact k_iret hx hb hr hlocks hK hS h ddX4_undoCount_7

set_option maxHeartbeats 4000000 in
set_option maxRecDepth 100000 in
theorem c_X4_save (l : Launch) (X : GX) {σ : Mem} {K : Int32 → Mem → Prop} (h : wp_X4_save σ K) : MI l X yX4_save cX4_save 1 ((Option.some Jvm.ClassFile.FieldType.int)) ({ frames := 2, cells := 0, slots := 0, locals := 101 } : Room) [.ref (ga X 0)] σ K := by
  refine ent_met (QQ := fun A => va_Qi K (BW X A) A) (by decide) (Nat.le_of_ble_eq_true rfl) ?_
  intro p e s m args below meth c A ls hx hb hr hlocks hml hown ht hK hZ hA hS hl
  have hown : s.vm.findClass "GuardRoster" = some m.cls := hown
  have hl : lv_has ls 1 [(0, .ref (ga X 0))] := hl
  unfold wp_X4_save at h
  refine lv_aload_n hx hb ddX4_save_0 rfl (lv_at hl 0 rfl) ?_
  refine get_0_0 hx hb hown ht hK hS lk109 ddX4_save_1 ?_
  refine lv_aload_n hx hb ddX4_save_4 rfl (lv_at hl 0 rfl) ?_
  refine get_0_4 hx hb hown ht hK hS lk113 ddX4_save_5 ?_
  refine k_VV (As := [.ref (ga X 23)]) (rest := []) (c_X2_copyTo_23 l X h) mf_X2_copyTo lk388 hx hb hml hown ht hK hZ hS hA 1 1 rfl rfl rfl ⟨rfl, rfl⟩ ⟨Nat.le_of_ble_eq_true rfl, Nat.le_of_ble_eq_true rfl⟩ rfl hl.1 rfl (Nat.le_of_ble_eq_true rfl) ⟨Nat.le_of_ble_eq_true rfl, Nat.le_of_ble_eq_true rfl⟩ ddX4_save_8 (fun σ1 H locs hS h => ?_)
  refine lv_aload_n hx hb ddX4_save_11 rfl (lv_at hl 0 rfl) ?_
  refine lv_iconst (v := (1 : Int32)) hx hb ddX4_save_12 (by decide) ?_
  refine put_0_5 hx hb hown ht hK hS rfl rfl lk114 ddX4_save_13 (fun H locs hS => ?_)
  obtain ⟨σ2, eσ2⟩ : ∃ y : Mem, y = (st σ1 0 5 (1 : Int32)) := ⟨_, rfl⟩
  rw [← eσ2] at hS
  replace h := h σ2 eσ2
  refine lv_aload_n hx hb ddX4_save_16 rfl (lv_at hl 0 rfl) ?_
  refine get_0_0 hx hb hown ht hK hS lk109 ddX4_save_17 ?_
  refine k_VI (As := []) (rest := []) (c_X2_guards l X h) mf_X2_guards lk158 hx hb hml hown ht hK hZ hS hA 1 1 rfl rfl rfl ⟨rfl, rfl⟩ ⟨Nat.le_of_ble_eq_true rfl, Nat.le_of_ble_eq_true rfl⟩ rfl hl.1 rfl (Nat.le_of_ble_eq_true rfl) ⟨Nat.le_of_ble_eq_true rfl, Nat.le_of_ble_eq_true rfl⟩ ddX4_save_20 (fun r4 σ3 H locs hS h => ?_)
  exact k_iret hx hb hr hlocks hK hS h ddX4_save_23
