set_option maxHeartbeats 4000000 in
set_option maxRecDepth 100000 in
theorem c_X4_throwFor (l : Launch) (X : GX) (hfl : l.stackTraces = false) {x0 : Int32} {σ : Mem} {K : Mem → Prop} {KX : String → Mem → Prop} (h : wp_X4_throwFor x0 σ K KX) : XV l X yX4_throwFor cX4_throwFor 1 ((Option.none : Option Jvm.ClassFile.FieldType)) ({ frames := 6, cells := 1, slots := 6, locals := 90 } : Room) 1 6 [.int x0] σ K KX := by
  refine entX (QQ := fun A => va_Qv K (BW X A) A) (by decide) (Nat.le_of_ble_eq_true rfl) ?_
  intro p e s m args below meth c A ls hx hb hr hlocks hml hown ht hK hZ hA hS hl hY hout
  have hown : s.vm.findClass "GuardRoster" = some m.cls := hown
  have hl : lv_has ls 1 [(0, .int x0)] := hl
  unfold wp_X4_throwFor at h
  refine lv_iload_n hx hb ddX4_throwFor_0 rfl (lv_at hl 0 rfl) ?_
  by_cases c1 : x0 = (1 : Int32)
  · refine lv_tableIn (off := 35) (tgt := 36) hx hb ddX4_throwFor_1 (by rw [c1]; decide) (by rw [c1]; decide) (by rw [c1]; rfl) (by decide) ?_
    replace h := h.1 c1
    exact k_thrS t_IOOBE 17 rfl hx hb hfl hown ht hY hK hZ hS h hout hlocks (hl.1.trans hml.symm) ddX4_throwFor_36 ddX4_throwFor_39 ddX4_throwFor_40 ddX4_throwFor_42 ddX4_throwFor_45 ⟨Nat.le_of_ble_eq_true rfl, Nat.le_of_ble_eq_true rfl, Nat.le_of_ble_eq_true rfl, Nat.le_of_ble_eq_true rfl⟩ ⟨Nat.le_of_ble_eq_true rfl, Nat.le_of_ble_eq_true rfl⟩
  replace h := h.2
  by_cases c2 : x0 = (2 : Int32)
  · refine lv_tableIn (off := 45) (tgt := 46) hx hb ddX4_throwFor_1 (by rw [c2]; decide) (by rw [c2]; decide) (by rw [c2]; rfl) (by decide) ?_
    replace h := h.1 c2
    exact k_thrW t_IAE 18 rfl hx hb hfl hown ht hY hK hZ hS h hout hlocks (hl.1.trans hml.symm) ddX4_throwFor_46 ddX4_throwFor_49 ddX4_throwFor_50 ddX4_throwFor_53 ddX4_throwFor_56 ⟨Nat.le_of_ble_eq_true rfl, Nat.le_of_ble_eq_true rfl, Nat.le_of_ble_eq_true rfl, Nat.le_of_ble_eq_true rfl⟩ ⟨Nat.le_of_ble_eq_true rfl, Nat.le_of_ble_eq_true rfl⟩
  replace h := h.2
  by_cases c3 : x0 = (3 : Int32)
  · refine lv_tableIn (off := 56) (tgt := 57) hx hb ddX4_throwFor_1 (by rw [c3]; decide) (by rw [c3]; decide) (by rw [c3]; rfl) (by decide) ?_
    replace h := h.1 c3
    exact k_thrW t_ISE 19 rfl hx hb hfl hown ht hY hK hZ hS h hout hlocks (hl.1.trans hml.symm) ddX4_throwFor_57 ddX4_throwFor_60 ddX4_throwFor_61 ddX4_throwFor_64 ddX4_throwFor_67 ⟨Nat.le_of_ble_eq_true rfl, Nat.le_of_ble_eq_true rfl, Nat.le_of_ble_eq_true rfl, Nat.le_of_ble_eq_true rfl⟩ ⟨Nat.le_of_ble_eq_true rfl, Nat.le_of_ble_eq_true rfl⟩
  replace h := h.2
  by_cases c4 : x0 = (4 : Int32)
  · refine lv_tableIn (off := 67) (tgt := 68) hx hb ddX4_throwFor_1 (by rw [c4]; decide) (by rw [c4]; decide) (by rw [c4]; rfl) (by decide) ?_
    replace h := h.1 c4
    exact k_thrWN 20 rfl hx hb hfl hown ht hY hK hZ hS h hout hlocks (hl.1.trans hml.symm) ddX4_throwFor_68 ddX4_throwFor_71 ddX4_throwFor_72 ddX4_throwFor_75 ddX4_throwFor_78 ⟨Nat.le_of_ble_eq_true rfl, Nat.le_of_ble_eq_true rfl, Nat.le_of_ble_eq_true rfl, Nat.le_of_ble_eq_true rfl⟩ ⟨Nat.le_of_ble_eq_true rfl, Nat.le_of_ble_eq_true rfl⟩
  replace h := h.2
  by_cases c5 : x0 = (5 : Int32)
  · refine lv_tableIn (off := 78) (tgt := 79) hx hb ddX4_throwFor_1 (by rw [c5]; decide) (by rw [c5]; decide) (by rw [c5]; rfl) (by decide) ?_
    replace h := h.1 c5
    exact k_thrW t_UOE 21 rfl hx hb hfl hown ht hY hK hZ hS h hout hlocks (hl.1.trans hml.symm) ddX4_throwFor_79 ddX4_throwFor_82 ddX4_throwFor_83 ddX4_throwFor_86 ddX4_throwFor_89 ⟨Nat.le_of_ble_eq_true rfl, Nat.le_of_ble_eq_true rfl, Nat.le_of_ble_eq_true rfl, Nat.le_of_ble_eq_true rfl⟩ ⟨Nat.le_of_ble_eq_true rfl, Nat.le_of_ble_eq_true rfl⟩
  replace h := h.2
  refine lv_tableOut (tgt := 90) hx hb ddX4_throwFor_1 (by have := ne_toInt c1 (a := 1) rfl; have := ne_toInt c2 (a := 2) rfl; have := ne_toInt c3 (a := 3) rfl; have := ne_toInt c4 (a := 4) rfl; have := ne_toInt c5 (a := 5) rfl; omega) (by decide) ?_
  replace h := h c1 c2 c3 c4 c5
  exact kx_vret hx hb hr hlocks hK hS h ddX4_throwFor_90 ⟨Nat.le_of_ble_eq_true rfl, Nat.le_of_ble_eq_true rfl⟩

set_option maxHeartbeats 4000000 in
set_option maxRecDepth 100000 in
theorem c_X4_throwUnlessGuard (l : Launch) (X : GX) (hfl : l.stackTraces = false) {x1 : Int32} {σ : Mem} {K : Mem → Prop} {KX : String → Mem → Prop} (h : wp_X4_throwUnlessGuard x1 σ K KX) : XV l X yX4_throwUnlessGuard cX4_throwUnlessGuard 2 ((Option.none : Option Jvm.ClassFile.FieldType)) ({ frames := 6, cells := 1, slots := 6, locals := 90 } : Room) 1 6 [.ref (ga X 0), .int x1] σ K KX := by
  refine entX (QQ := fun A => va_Qv K (BW X A) A) (by decide) (Nat.le_of_ble_eq_true rfl) ?_
  intro p e s m args below meth c A ls hx hb hr hlocks hml hown ht hK hZ hA hS hl hY hout
  have hown : s.vm.findClass "GuardRoster" = some m.cls := hown
  have hl : lv_has ls 2 [(0, .ref (ga X 0)), (1, .int x1)] := hl
  unfold wp_X4_throwUnlessGuard at h
  refine lv_aload_n hx hb ddX4_throwUnlessGuard_0 rfl (lv_at hl 0 rfl) ?_
  refine get_0_0 hx hb hown ht hK hS lk109 ddX4_throwUnlessGuard_1 ?_
  refine lv_iload_n hx hb ddX4_throwUnlessGuard_4 rfl (lv_at hl 1 rfl) ?_
  refine k_VI (As := [.int x1]) (rest := []) (c_X2_isGuard l X h) mf_X2_isGuard lk556 hx hb hml hown ht hK hZ hS hA 1 1 rfl rfl rfl ⟨rfl, rfl⟩ ⟨Nat.le_of_ble_eq_true rfl, Nat.le_of_ble_eq_true rfl⟩ rfl hl.1 rfl (Nat.le_of_ble_eq_true rfl) ⟨Nat.le_of_ble_eq_true rfl, Nat.le_of_ble_eq_true rfl⟩ ddX4_throwUnlessGuard_5 (fun r2 σ1 H locs hS h => ?_)
  refine lv_if_ne (tgt := 22) hx hb ddX4_throwUnlessGuard_8 (by decide) (fun c3 => ?_) (fun c3 => ?_)
  · replace h := h.1 c3
    exact kx_vret hx hb hr hlocks hK hS h ddX4_throwUnlessGuard_22 ⟨Nat.le_of_ble_eq_true rfl, Nat.le_of_ble_eq_true rfl⟩
  · replace h := h.2 c3
    exact k_thrW t_IOOBE 23 rfl hx hb hfl hown ht hY hK hZ hS h hout hlocks (hl.1.trans hml.symm) ddX4_throwUnlessGuard_11 ddX4_throwUnlessGuard_14 ddX4_throwUnlessGuard_15 ddX4_throwUnlessGuard_18 ddX4_throwUnlessGuard_21 ⟨Nat.le_of_ble_eq_true rfl, Nat.le_of_ble_eq_true rfl, Nat.le_of_ble_eq_true rfl, Nat.le_of_ble_eq_true rfl⟩ ⟨Nat.le_of_ble_eq_true rfl, Nat.le_of_ble_eq_true rfl⟩

set_option maxHeartbeats 4000000 in
set_option maxRecDepth 100000 in
theorem c_X4_throwUnlessSlot (l : Launch) (X : GX) (hfl : l.stackTraces = false) {x1 : Int32} {σ : Mem} {K : Mem → Prop} {KX : String → Mem → Prop} (h : wp_X4_throwUnlessSlot x1 σ K KX) : XV l X yX4_throwUnlessSlot cX4_throwUnlessSlot 2 ((Option.none : Option Jvm.ClassFile.FieldType)) ({ frames := 6, cells := 1, slots := 6, locals := 90 } : Room) 1 6 [.ref (ga X 0), .int x1] σ K KX := by
  refine entX (QQ := fun A => va_Qv K (BW X A) A) (by decide) (Nat.le_of_ble_eq_true rfl) ?_
  intro p e s m args below meth c A ls hx hb hr hlocks hml hown ht hK hZ hA hS hl hY hout
  have hown : s.vm.findClass "GuardRoster" = some m.cls := hown
  have hl : lv_has ls 2 [(0, .ref (ga X 0)), (1, .int x1)] := hl
  unfold wp_X4_throwUnlessSlot at h
  refine lv_aload_n hx hb ddX4_throwUnlessSlot_0 rfl (lv_at hl 0 rfl) ?_
  refine get_0_0 hx hb hown ht hK hS lk109 ddX4_throwUnlessSlot_1 ?_
  refine lv_iload_n hx hb ddX4_throwUnlessSlot_4 rfl (lv_at hl 1 rfl) ?_
  refine k_VI (As := [.int x1]) (rest := []) (c_X2_isSlot l X h) mf_X2_isSlot lk239 hx hb hml hown ht hK hZ hS hA 1 1 rfl rfl rfl ⟨rfl, rfl⟩ ⟨Nat.le_of_ble_eq_true rfl, Nat.le_of_ble_eq_true rfl⟩ rfl hl.1 rfl (Nat.le_of_ble_eq_true rfl) ⟨Nat.le_of_ble_eq_true rfl, Nat.le_of_ble_eq_true rfl⟩ ddX4_throwUnlessSlot_5 (fun r2 σ1 H locs hS h => ?_)
  refine lv_if_ne (tgt := 22) hx hb ddX4_throwUnlessSlot_8 (by decide) (fun c3 => ?_) (fun c3 => ?_)
  · replace h := h.1 c3
    exact kx_vret hx hb hr hlocks hK hS h ddX4_throwUnlessSlot_22 ⟨Nat.le_of_ble_eq_true rfl, Nat.le_of_ble_eq_true rfl⟩
  · replace h := h.2 c3
    exact k_thrW t_IOOBE 16 rfl hx hb hfl hown ht hY hK hZ hS h hout hlocks (hl.1.trans hml.symm) ddX4_throwUnlessSlot_11 ddX4_throwUnlessSlot_14 ddX4_throwUnlessSlot_15 ddX4_throwUnlessSlot_18 ddX4_throwUnlessSlot_21 ⟨Nat.le_of_ble_eq_true rfl, Nat.le_of_ble_eq_true rfl, Nat.le_of_ble_eq_true rfl, Nat.le_of_ble_eq_true rfl⟩ ⟨Nat.le_of_ble_eq_true rfl, Nat.le_of_ble_eq_true rfl⟩

set_option maxHeartbeats 4000000 in
set_option maxRecDepth 100000 in
theorem c_X4_throwUnlessGuardAndSlot (l : Launch) (X : GX) (hfl : l.stackTraces = false) {x1 x2 : Int32} {σ : Mem} {K : Mem → Prop} {KX : String → Mem → Prop} (h : wp_X4_throwUnlessGuardAndSlot x1 x2 σ K KX) : XV l X yX4_throwUnlessGuardAndSlot cX4_throwUnlessGuardAndSlot 3 ((Option.none : Option Jvm.ClassFile.FieldType)) ({ frames := 7, cells := 2, slots := 12, locals := 111 } : Room) 2 12 [.ref (ga X 0), .int x1, .int x2] σ K KX := by
  refine entX (QQ := fun A => va_Qv K (BW X A) A) (by decide) (Nat.le_of_ble_eq_true rfl) ?_
  intro p e s m args below meth c A ls hx hb hr hlocks hml hown ht hK hZ hA hS hl hY hout
  have hown : s.vm.findClass "GuardRoster" = some m.cls := hown
  have hl : lv_has ls 3 [(0, .ref (ga X 0)), (1, .int x1), (2, .int x2)] := hl
  unfold wp_X4_throwUnlessGuardAndSlot at h
  refine lv_aload_n hx hb ddX4_throwUnlessGuardAndSlot_0 rfl (lv_at hl 0 rfl) ?_
  refine lv_iload_n hx hb ddX4_throwUnlessGuardAndSlot_1 rfl (lv_at hl 1 rfl) ?_
  refine kx_VV (As := [.int x1]) (rest := []) (c_X4_throwUnlessGuard l X hfl h) mf_X4_throwUnlessGuard lk552 hx hb hml hown ht hK hZ hS hA hY 0 0 rfl rfl rfl ⟨rfl, rfl⟩ ⟨Nat.le_of_ble_eq_true rfl, Nat.le_of_ble_eq_true rfl⟩ rfl hl.1 rfl (Nat.le_of_ble_eq_true rfl) ⟨Nat.le_of_ble_eq_true rfl, Nat.le_of_ble_eq_true rfl⟩ ddX4_throwUnlessGuardAndSlot_2 hout hlocks ⟨Nat.le_of_ble_eq_true rfl, Nat.le_of_ble_eq_true rfl⟩ (fun σ1 H locs hS h => ?_)
  refine lv_aload_n hx hb ddX4_throwUnlessGuardAndSlot_5 rfl (lv_at hl 0 rfl) ?_
  refine lv_iload_n hx hb ddX4_throwUnlessGuardAndSlot_6 rfl (lv_at hl 2 rfl) ?_
  refine kx_VV (As := [.int x2]) (rest := []) (c_X4_throwUnlessSlot l X hfl h) mf_X4_throwUnlessSlot lk235 hx hb hml hown ht hK hZ hS hA hY 0 0 rfl rfl rfl ⟨rfl, rfl⟩ ⟨Nat.le_of_ble_eq_true rfl, Nat.le_of_ble_eq_true rfl⟩ rfl hl.1 rfl (Nat.le_of_ble_eq_true rfl) ⟨Nat.le_of_ble_eq_true rfl, Nat.le_of_ble_eq_true rfl⟩ ddX4_throwUnlessGuardAndSlot_7 hout hlocks ⟨Nat.le_of_ble_eq_true rfl, Nat.le_of_ble_eq_true rfl⟩ (fun σ2 H locs hS h => ?_)
  exact kx_vret hx hb hr hlocks hK hS h ddX4_throwUnlessGuardAndSlot_10 ⟨Nat.le_of_ble_eq_true rfl, Nat.le_of_ble_eq_true rfl⟩

set_option maxHeartbeats 4000000 in
set_option maxRecDepth 100000 in
theorem c_X4_throwUnlessRefused (l : Launch) (X : GX) (hfl : l.stackTraces = false) {σ : Mem} {K : Mem → Prop} {KX : String → Mem → Prop} (h : wp_X4_throwUnlessRefused σ K KX) : XV l X yX4_throwUnlessRefused cX4_throwUnlessRefused 1 ((Option.none : Option Jvm.ClassFile.FieldType)) ({ frames := 6, cells := 1, slots := 6, locals := 90 } : Room) 1 6 [.ref (ga X 0)] σ K KX := by
  refine entX (QQ := fun A => va_Qv K (BW X A) A) (by decide) (Nat.le_of_ble_eq_true rfl) ?_
  intro p e s m args below meth c A ls hx hb hr hlocks hml hown ht hK hZ hA hS hl hY hout
  have hown : s.vm.findClass "GuardRoster" = some m.cls := hown
  have hl : lv_has ls 1 [(0, .ref (ga X 0))] := hl
  unfold wp_X4_throwUnlessRefused at h
  refine lv_aload_n hx hb ddX4_throwUnlessRefused_0 rfl (lv_at hl 0 rfl) ?_
  refine get_0_8 hx hb hown ht hK hS lk117 ddX4_throwUnlessRefused_1 ?_
  refine lv_if_ne (tgt := 18) hx hb ddX4_throwUnlessRefused_4 (by decide) (fun c1 => ?_) (fun c1 => ?_)
  · replace h := h.1 c1
    exact kx_vret hx hb hr hlocks hK hS h ddX4_throwUnlessRefused_18 ⟨Nat.le_of_ble_eq_true rfl, Nat.le_of_ble_eq_true rfl⟩
  · replace h := h.2 c1
    exact k_thrWN 30 rfl hx hb hfl hown ht hY hK hZ hS h hout hlocks (hl.1.trans hml.symm) ddX4_throwUnlessRefused_7 ddX4_throwUnlessRefused_10 ddX4_throwUnlessRefused_11 ddX4_throwUnlessRefused_14 ddX4_throwUnlessRefused_17 ⟨Nat.le_of_ble_eq_true rfl, Nat.le_of_ble_eq_true rfl, Nat.le_of_ble_eq_true rfl, Nat.le_of_ble_eq_true rfl⟩ ⟨Nat.le_of_ble_eq_true rfl, Nat.le_of_ble_eq_true rfl⟩

set_option maxHeartbeats 4000000 in
set_option maxRecDepth 100000 in
theorem c_X4_addGate (l : Launch) (X : GX) (hfl : l.stackTraces = false) {x1 : Int32} {σ : Mem} {K : Int32 → Mem → Prop} {KX : String → Mem → Prop} (h : wp_X4_addGate x1 σ K KX) : XI l X yX4_addGate cX4_addGate 2 ((Option.some Jvm.ClassFile.FieldType.int)) ({ frames := 7, cells := 1, slots := 6, locals := 143 } : Room) 1 6 [.ref (ga X 0), .int x1] σ K KX := by
  refine entX (QQ := fun A => va_Qi K (BW X A) A) (by decide) (Nat.le_of_ble_eq_true rfl) ?_
  intro p e s m args below meth c A ls hx hb hr hlocks hml hown ht hK hZ hA hS hl hY hout
  have hown : s.vm.findClass "GuardRoster" = some m.cls := hown
  have hl : lv_has ls 2 [(0, .ref (ga X 0)), (1, .int x1)] := hl
  unfold wp_X4_addGate at h
  refine lv_aload_n hx hb ddX4_addGate_0 rfl (lv_at hl 0 rfl) ?_
  refine lv_iload_n hx hb ddX4_addGate_1 rfl (lv_at hl 1 rfl) ?_
  refine k_VI (As := [.int x1]) (rest := []) (c_X4_problemOfGate l X h) mf_X4_problemOfGate lk404 hx hb hml hown ht hK hZ hS hA 0 0 rfl rfl rfl ⟨rfl, rfl⟩ ⟨Nat.le_of_ble_eq_true rfl, Nat.le_of_ble_eq_true rfl⟩ rfl hl.1 rfl (Nat.le_of_ble_eq_true rfl) ⟨Nat.le_of_ble_eq_true rfl, Nat.le_of_ble_eq_true rfl⟩ ddX4_addGate_2 (fun r2 σ1 H locs hS h => ?_)
  refine kx_SV (As := [.int r2]) (rest := []) (c_X4_throwFor l X hfl h) mf_X4_throwFor lk411 hx hb hml hown ht hK hZ hS hA hY ⟨rfl, rfl⟩ ⟨Nat.le_of_ble_eq_true rfl, Nat.le_of_ble_eq_true rfl⟩ rfl hl.1 rfl (Nat.le_of_ble_eq_true rfl) ⟨Nat.le_of_ble_eq_true rfl, Nat.le_of_ble_eq_true rfl⟩ ddX4_addGate_5 hout hlocks ⟨Nat.le_of_ble_eq_true rfl, Nat.le_of_ble_eq_true rfl⟩ (fun σ3 H locs hS h => ?_)
  refine lv_aload_n hx hb ddX4_addGate_8 rfl (lv_at hl 0 rfl) ?_
  refine get_0_1 hx hb hown ht hK hS lk110 ddX4_addGate_9 ?_
  refine lv_aload_n hx hb ddX4_addGate_12 rfl (lv_at hl 0 rfl) ?_
  refine get_0_0 hx hb hown ht hK hS lk109 ddX4_addGate_13 ?_
  refine k_VV (As := [.ref (ga X 1)]) (rest := []) (c_X1_keep l X h) mf_X1_keep lk479 hx hb hml hown ht hK hZ hS hA 4 2 rfl rfl rfl ⟨rfl, rfl⟩ ⟨Nat.le_of_ble_eq_true rfl, Nat.le_of_ble_eq_true rfl⟩ rfl hl.1 rfl (Nat.le_of_ble_eq_true rfl) ⟨Nat.le_of_ble_eq_true rfl, Nat.le_of_ble_eq_true rfl⟩ ddX4_addGate_16 (fun σ4 H locs hS h => ?_)
  refine lv_aload_n hx hb ddX4_addGate_19 rfl (lv_at hl 0 rfl) ?_
  refine get_0_0 hx hb hown ht hK hS lk109 ddX4_addGate_20 ?_
  refine lv_iload_n hx hb ddX4_addGate_23 rfl (lv_at hl 1 rfl) ?_
  refine k_VI (As := [.int x1]) (rest := []) (c_X2_appendGate l X h) mf_X2_appendGate lk495 hx hb hml hown ht hK hZ hS hA 1 1 rfl rfl rfl ⟨rfl, rfl⟩ ⟨Nat.le_of_ble_eq_true rfl, Nat.le_of_ble_eq_true rfl⟩ rfl hl.1 rfl (Nat.le_of_ble_eq_true rfl) ⟨Nat.le_of_ble_eq_true rfl, Nat.le_of_ble_eq_true rfl⟩ ddX4_addGate_24 (fun r6 σ5 H locs hS h => ?_)
  exact kx_iret hx hb hr hlocks hK hS h ddX4_addGate_27 ⟨Nat.le_of_ble_eq_true rfl, Nat.le_of_ble_eq_true rfl⟩

set_option maxHeartbeats 4000000 in
set_option maxRecDepth 100000 in
theorem c_X4_addGuard (l : Launch) (X : GX) (hfl : l.stackTraces = false) {x1 : Int32} {σ : Mem} {K : Int32 → Mem → Prop} {KX : String → Mem → Prop} (h : wp_X4_addGuard x1 σ K KX) : XI l X yX4_addGuard cX4_addGuard 2 ((Option.some Jvm.ClassFile.FieldType.int)) ({ frames := 7, cells := 1, slots := 6, locals := 143 } : Room) 1 6 [.ref (ga X 0), .int x1] σ K KX := by
  refine entX (QQ := fun A => va_Qi K (BW X A) A) (by decide) (Nat.le_of_ble_eq_true rfl) ?_
  intro p e s m args below meth c A ls hx hb hr hlocks hml hown ht hK hZ hA hS hl hY hout
  have hown : s.vm.findClass "GuardRoster" = some m.cls := hown
  have hl : lv_has ls 2 [(0, .ref (ga X 0)), (1, .int x1)] := hl
  unfold wp_X4_addGuard at h
  refine lv_aload_n hx hb ddX4_addGuard_0 rfl (lv_at hl 0 rfl) ?_
  refine lv_iload_n hx hb ddX4_addGuard_1 rfl (lv_at hl 1 rfl) ?_
  refine k_VI (As := [.int x1]) (rest := []) (c_X4_problemOfGuard l X h) mf_X4_problemOfGuard lk506 hx hb hml hown ht hK hZ hS hA 0 0 rfl rfl rfl ⟨rfl, rfl⟩ ⟨Nat.le_of_ble_eq_true rfl, Nat.le_of_ble_eq_true rfl⟩ rfl hl.1 rfl (Nat.le_of_ble_eq_true rfl) ⟨Nat.le_of_ble_eq_true rfl, Nat.le_of_ble_eq_true rfl⟩ ddX4_addGuard_2 (fun r2 σ1 H locs hS h => ?_)
  refine kx_SV (As := [.int r2]) (rest := []) (c_X4_throwFor l X hfl h) mf_X4_throwFor lk411 hx hb hml hown ht hK hZ hS hA hY ⟨rfl, rfl⟩ ⟨Nat.le_of_ble_eq_true rfl, Nat.le_of_ble_eq_true rfl⟩ rfl hl.1 rfl (Nat.le_of_ble_eq_true rfl) ⟨Nat.le_of_ble_eq_true rfl, Nat.le_of_ble_eq_true rfl⟩ ddX4_addGuard_5 hout hlocks ⟨Nat.le_of_ble_eq_true rfl, Nat.le_of_ble_eq_true rfl⟩ (fun σ3 H locs hS h => ?_)
  refine lv_aload_n hx hb ddX4_addGuard_8 rfl (lv_at hl 0 rfl) ?_
  refine get_0_1 hx hb hown ht hK hS lk110 ddX4_addGuard_9 ?_
  refine lv_aload_n hx hb ddX4_addGuard_12 rfl (lv_at hl 0 rfl) ?_
  refine get_0_0 hx hb hown ht hK hS lk109 ddX4_addGuard_13 ?_
  refine k_VV (As := [.ref (ga X 1)]) (rest := []) (c_X1_keep l X h) mf_X1_keep lk479 hx hb hml hown ht hK hZ hS hA 4 2 rfl rfl rfl ⟨rfl, rfl⟩ ⟨Nat.le_of_ble_eq_true rfl, Nat.le_of_ble_eq_true rfl⟩ rfl hl.1 rfl (Nat.le_of_ble_eq_true rfl) ⟨Nat.le_of_ble_eq_true rfl, Nat.le_of_ble_eq_true rfl⟩ ddX4_addGuard_16 (fun σ4 H locs hS h => ?_)
  refine lv_aload_n hx hb ddX4_addGuard_19 rfl (lv_at hl 0 rfl) ?_
  refine get_0_0 hx hb hown ht hK hS lk109 ddX4_addGuard_20 ?_
  refine lv_iload_n hx hb ddX4_addGuard_23 rfl (lv_at hl 1 rfl) ?_
  refine k_VI (As := [.int x1]) (rest := []) (c_X2_appendGuard l X h) mf_X2_appendGuard lk510 hx hb hml hown ht hK hZ hS hA 1 1 rfl rfl rfl ⟨rfl, rfl⟩ ⟨Nat.le_of_ble_eq_true rfl, Nat.le_of_ble_eq_true rfl⟩ rfl hl.1 rfl (Nat.le_of_ble_eq_true rfl) ⟨Nat.le_of_ble_eq_true rfl, Nat.le_of_ble_eq_true rfl⟩ ddX4_addGuard_24 (fun r6 σ5 H locs hS h => ?_)
  exact kx_iret hx hb hr hlocks hK hS h ddX4_addGuard_27 ⟨Nat.le_of_ble_eq_true rfl, Nat.le_of_ble_eq_true rfl⟩

set_option maxHeartbeats 4000000 in
set_option maxRecDepth 100000 in
theorem c_X4_neededRank (l : Launch) (X : GX) (hfl : l.stackTraces = false) {x1 : Int32} {σ : Mem} {K : Int32 → Mem → Prop} {KX : String → Mem → Prop} (h : wp_X4_neededRank x1 σ K KX) : XI l X yX4_neededRank cX4_neededRank 2 ((Option.some Jvm.ClassFile.FieldType.int)) ({ frames := 6, cells := 1, slots := 6, locals := 90 } : Room) 1 6 [.ref (ga X 0), .int x1] σ K KX := by
  refine entX (QQ := fun A => va_Qi K (BW X A) A) (by decide) (Nat.le_of_ble_eq_true rfl) ?_
  intro p e s m args below meth c A ls hx hb hr hlocks hml hown ht hK hZ hA hS hl hY hout
  have hown : s.vm.findClass "GuardRoster" = some m.cls := hown
  have hl : lv_has ls 2 [(0, .ref (ga X 0)), (1, .int x1)] := hl
  unfold wp_X4_neededRank at h
  refine lv_aload_n hx hb ddX4_neededRank_0 rfl (lv_at hl 0 rfl) ?_
  refine get_0_0 hx hb hown ht hK hS lk109 ddX4_neededRank_1 ?_
  refine lv_iload_n hx hb ddX4_neededRank_4 rfl (lv_at hl 1 rfl) ?_
  refine k_VI (As := [.int x1]) (rest := []) (c_X2_isGate l X h) mf_X2_isGate lk542 hx hb hml hown ht hK hZ hS hA 1 1 rfl rfl rfl ⟨rfl, rfl⟩ ⟨Nat.le_of_ble_eq_true rfl, Nat.le_of_ble_eq_true rfl⟩ rfl hl.1 rfl (Nat.le_of_ble_eq_true rfl) ⟨Nat.le_of_ble_eq_true rfl, Nat.le_of_ble_eq_true rfl⟩ ddX4_neededRank_5 (fun r2 σ1 H locs hS h => ?_)
  refine lv_if_ne (tgt := 21) hx hb ddX4_neededRank_8 (by decide) (fun c3 => ?_) (fun c3 => ?_)
  · replace h := h.1 c3
    refine lv_aload_n hx hb ddX4_neededRank_21 rfl (lv_at hl 0 rfl) ?_
    refine get_0_0 hx hb hown ht hK hS lk109 ddX4_neededRank_22 ?_
    refine lv_iload_n hx hb ddX4_neededRank_25 rfl (lv_at hl 1 rfl) ?_
    refine k_VI (As := [.int x1]) (rest := []) (c_X2_rankNeededAt l X h) mf_X2_rankNeededAt lk544 hx hb hml hown ht hK hZ hS hA 1 1 rfl rfl rfl ⟨rfl, rfl⟩ ⟨Nat.le_of_ble_eq_true rfl, Nat.le_of_ble_eq_true rfl⟩ rfl hl.1 rfl (Nat.le_of_ble_eq_true rfl) ⟨Nat.le_of_ble_eq_true rfl, Nat.le_of_ble_eq_true rfl⟩ ddX4_neededRank_26 (fun r5 σ4 H locs hS h => ?_)
    exact kx_iret hx hb hr hlocks hK hS h ddX4_neededRank_29 ⟨Nat.le_of_ble_eq_true rfl, Nat.le_of_ble_eq_true rfl⟩
  · replace h := h.2 c3
    exact k_thrS t_IOOBE 22 rfl hx hb hfl hown ht hY hK hZ hS h hout hlocks (hl.1.trans hml.symm) ddX4_neededRank_11 ddX4_neededRank_14 ddX4_neededRank_15 ddX4_neededRank_17 ddX4_neededRank_20 ⟨Nat.le_of_ble_eq_true rfl, Nat.le_of_ble_eq_true rfl, Nat.le_of_ble_eq_true rfl, Nat.le_of_ble_eq_true rfl⟩ ⟨Nat.le_of_ble_eq_true rfl, Nat.le_of_ble_eq_true rfl⟩

set_option maxHeartbeats 4000000 in
set_option maxRecDepth 100000 in
theorem c_X4_rank (l : Launch) (X : GX) (hfl : l.stackTraces = false) {x1 : Int32} {σ : Mem} {K : Int32 → Mem → Prop} {KX : String → Mem → Prop} (h : wp_X4_rank x1 σ K KX) : XI l X yX4_rank cX4_rank 2 ((Option.some Jvm.ClassFile.FieldType.int)) ({ frames := 7, cells := 1, slots := 6, locals := 111 } : Room) 1 6 [.ref (ga X 0), .int x1] σ K KX := by
  refine entX (QQ := fun A => va_Qi K (BW X A) A) (by decide) (Nat.le_of_ble_eq_true rfl) ?_
  intro p e s m args below meth c A ls hx hb hr hlocks hml hown ht hK hZ hA hS hl hY hout
  have hown : s.vm.findClass "GuardRoster" = some m.cls := hown
  have hl : lv_has ls 2 [(0, .ref (ga X 0)), (1, .int x1)] := hl
  unfold wp_X4_rank at h
  refine lv_aload_n hx hb ddX4_rank_0 rfl (lv_at hl 0 rfl) ?_
  refine lv_iload_n hx hb ddX4_rank_1 rfl (lv_at hl 1 rfl) ?_
  refine kx_VV (As := [.int x1]) (rest := []) (c_X4_throwUnlessGuard l X hfl h) mf_X4_throwUnlessGuard lk552 hx hb hml hown ht hK hZ hS hA hY 0 0 rfl rfl rfl ⟨rfl, rfl⟩ ⟨Nat.le_of_ble_eq_true rfl, Nat.le_of_ble_eq_true rfl⟩ rfl hl.1 rfl (Nat.le_of_ble_eq_true rfl) ⟨Nat.le_of_ble_eq_true rfl, Nat.le_of_ble_eq_true rfl⟩ ddX4_rank_2 hout hlocks ⟨Nat.le_of_ble_eq_true rfl, Nat.le_of_ble_eq_true rfl⟩ (fun σ1 H locs hS h => ?_)
  refine lv_aload_n hx hb ddX4_rank_5 rfl (lv_at hl 0 rfl) ?_
  refine get_0_0 hx hb hown ht hK hS lk109 ddX4_rank_6 ?_
  refine lv_iload_n hx hb ddX4_rank_9 rfl (lv_at hl 1 rfl) ?_
  refine k_VI (As := [.int x1]) (rest := []) (c_X2_rankOf l X h) mf_X2_rankOf lk558 hx hb hml hown ht hK hZ hS hA 1 1 rfl rfl rfl ⟨rfl, rfl⟩ ⟨Nat.le_of_ble_eq_true rfl, Nat.le_of_ble_eq_true rfl⟩ rfl hl.1 rfl (Nat.le_of_ble_eq_true rfl) ⟨Nat.le_of_ble_eq_true rfl, Nat.le_of_ble_eq_true rfl⟩ ddX4_rank_10 (fun r3 σ2 H locs hS h => ?_)
  exact kx_iret hx hb hr hlocks hK hS h ddX4_rank_13 ⟨Nat.le_of_ble_eq_true rfl, Nat.le_of_ble_eq_true rfl⟩

set_option maxHeartbeats 4000000 in
set_option maxRecDepth 100000 in
theorem c_X4_faints (l : Launch) (X : GX) (hfl : l.stackTraces = false) {x1 : Int32} {σ : Mem} {K : Int32 → Mem → Prop} {KX : String → Mem → Prop} (h : wp_X4_faints x1 σ K KX) : XI l X yX4_faints cX4_faints 2 ((Option.some Jvm.ClassFile.FieldType.int)) ({ frames := 7, cells := 1, slots := 6, locals := 111 } : Room) 1 6 [.ref (ga X 0), .int x1] σ K KX := by
  refine entX (QQ := fun A => va_Qi K (BW X A) A) (by decide) (Nat.le_of_ble_eq_true rfl) ?_
  intro p e s m args below meth c A ls hx hb hr hlocks hml hown ht hK hZ hA hS hl hY hout
  have hown : s.vm.findClass "GuardRoster" = some m.cls := hown
  have hl : lv_has ls 2 [(0, .ref (ga X 0)), (1, .int x1)] := hl
  unfold wp_X4_faints at h
  refine lv_aload_n hx hb ddX4_faints_0 rfl (lv_at hl 0 rfl) ?_
  refine lv_iload_n hx hb ddX4_faints_1 rfl (lv_at hl 1 rfl) ?_
  refine kx_VV (As := [.int x1]) (rest := []) (c_X4_throwUnlessGuard l X hfl h) mf_X4_throwUnlessGuard lk552 hx hb hml hown ht hK hZ hS hA hY 0 0 rfl rfl rfl ⟨rfl, rfl⟩ ⟨Nat.le_of_ble_eq_true rfl, Nat.le_of_ble_eq_true rfl⟩ rfl hl.1 rfl (Nat.le_of_ble_eq_true rfl) ⟨Nat.le_of_ble_eq_true rfl, Nat.le_of_ble_eq_true rfl⟩ ddX4_faints_2 hout hlocks ⟨Nat.le_of_ble_eq_true rfl, Nat.le_of_ble_eq_true rfl⟩ (fun σ1 H locs hS h => ?_)
  refine lv_aload_n hx hb ddX4_faints_5 rfl (lv_at hl 0 rfl) ?_
  refine get_0_0 hx hb hown ht hK hS lk109 ddX4_faints_6 ?_
  refine lv_iload_n hx hb ddX4_faints_9 rfl (lv_at hl 1 rfl) ?_
  refine k_VI (As := [.int x1]) (rest := []) (c_X2_faintsOf l X h) mf_X2_faintsOf lk566 hx hb hml hown ht hK hZ hS hA 1 1 rfl rfl rfl ⟨rfl, rfl⟩ ⟨Nat.le_of_ble_eq_true rfl, Nat.le_of_ble_eq_true rfl⟩ rfl hl.1 rfl (Nat.le_of_ble_eq_true rfl) ⟨Nat.le_of_ble_eq_true rfl, Nat.le_of_ble_eq_true rfl⟩ ddX4_faints_10 (fun r3 σ2 H locs hS h => ?_)
  exact kx_iret hx hb hr hlocks hK hS h ddX4_faints_13 ⟨Nat.le_of_ble_eq_true rfl, Nat.le_of_ble_eq_true rfl⟩

set_option maxHeartbeats 4000000 in
set_option maxRecDepth 100000 in
theorem c_X4_assign (l : Launch) (X : GX) (hfl : l.stackTraces = false) {x1 x2 x3 : Int32} {σ : Mem} {K : Int32 → Mem → Prop} {KX : String → Mem → Prop} (h : wp_X4_assign x1 x2 x3 σ K KX) : XI l X yX4_assign cX4_assign 4 ((Option.some Jvm.ClassFile.FieldType.int)) ({ frames := 7, cells := 1, slots := 6, locals := 143 } : Room) 1 6 [.ref (ga X 0), .int x1, .int x2, .int x3] σ K KX := by
  refine entX (QQ := fun A => va_Qi K (BW X A) A) (by decide) (Nat.le_of_ble_eq_true rfl) ?_
  intro p e s m args below meth c A ls hx hb hr hlocks hml hown ht hK hZ hA hS hl hY hout
  have hown : s.vm.findClass "GuardRoster" = some m.cls := hown
  have hl : lv_has ls 4 [(0, .ref (ga X 0)), (1, .int x1), (2, .int x2), (3, .int x3)] := hl
  unfold wp_X4_assign at h
  refine lv_aload_n hx hb ddX4_assign_0 rfl (lv_at hl 0 rfl) ?_
  refine lv_iload_n hx hb ddX4_assign_1 rfl (lv_at hl 1 rfl) ?_
  refine lv_iload_n hx hb ddX4_assign_2 rfl (lv_at hl 2 rfl) ?_
  refine lv_iload_n hx hb ddX4_assign_3 rfl (lv_at hl 3 rfl) ?_
  refine k_VI (As := [.int x1, .int x2, .int x3]) (rest := []) (c_X4_problemOfDuty l X h) mf_X4_problemOfDuty lk578 hx hb hml hown ht hK hZ hS hA 0 0 rfl rfl rfl ⟨rfl, rfl⟩ ⟨Nat.le_of_ble_eq_true rfl, Nat.le_of_ble_eq_true rfl⟩ rfl hl.1 rfl (Nat.le_of_ble_eq_true rfl) ⟨Nat.le_of_ble_eq_true rfl, Nat.le_of_ble_eq_true rfl⟩ ddX4_assign_4 (fun r2 σ1 H locs hS h => ?_)
  refine kx_SV (As := [.int r2]) (rest := []) (c_X4_throwFor l X hfl h) mf_X4_throwFor lk411 hx hb hml hown ht hK hZ hS hA hY ⟨rfl, rfl⟩ ⟨Nat.le_of_ble_eq_true rfl, Nat.le_of_ble_eq_true rfl⟩ rfl hl.1 rfl (Nat.le_of_ble_eq_true rfl) ⟨Nat.le_of_ble_eq_true rfl, Nat.le_of_ble_eq_true rfl⟩ ddX4_assign_7 hout hlocks ⟨Nat.le_of_ble_eq_true rfl, Nat.le_of_ble_eq_true rfl⟩ (fun σ3 H locs hS h => ?_)
  refine lv_aload_n hx hb ddX4_assign_10 rfl (lv_at hl 0 rfl) ?_
  refine get_0_1 hx hb hown ht hK hS lk110 ddX4_assign_11 ?_
  refine lv_aload_n hx hb ddX4_assign_14 rfl (lv_at hl 0 rfl) ?_
  refine get_0_0 hx hb hown ht hK hS lk109 ddX4_assign_15 ?_
  refine k_VV (As := [.ref (ga X 1)]) (rest := []) (c_X1_keep l X h) mf_X1_keep lk479 hx hb hml hown ht hK hZ hS hA 4 2 rfl rfl rfl ⟨rfl, rfl⟩ ⟨Nat.le_of_ble_eq_true rfl, Nat.le_of_ble_eq_true rfl⟩ rfl hl.1 rfl (Nat.le_of_ble_eq_true rfl) ⟨Nat.le_of_ble_eq_true rfl, Nat.le_of_ble_eq_true rfl⟩ ddX4_assign_18 (fun σ4 H locs hS h => ?_)
  refine lv_aload_n hx hb ddX4_assign_21 rfl (lv_at hl 0 rfl) ?_
  refine get_0_0 hx hb hown ht hK hS lk109 ddX4_assign_22 ?_
  refine lv_iload_n hx hb ddX4_assign_25 rfl (lv_at hl 1 rfl) ?_
  refine lv_iload_n hx hb ddX4_assign_26 rfl (lv_at hl 2 rfl) ?_
  refine lv_iload_n hx hb ddX4_assign_27 rfl (lv_at hl 3 rfl) ?_
  refine k_VV (As := [.int x1, .int x2, .int x3]) (rest := []) (c_X2_setDuty l X h) mf_X2_setDuty lk599 hx hb hml hown ht hK hZ hS hA 1 1 rfl rfl rfl ⟨rfl, rfl⟩ ⟨Nat.le_of_ble_eq_true rfl, Nat.le_of_ble_eq_true rfl⟩ rfl hl.1 rfl (Nat.le_of_ble_eq_true rfl) ⟨Nat.le_of_ble_eq_true rfl, Nat.le_of_ble_eq_true rfl⟩ ddX4_assign_28 (fun σ5 H locs hS h => ?_)
  refine lv_aload_n hx hb ddX4_assign_31 rfl (lv_at hl 0 rfl) ?_
  refine get_0_0 hx hb hown ht hK hS lk109 ddX4_assign_32 ?_
  refine lv_iload_n hx hb ddX4_assign_35 rfl (lv_at hl 3 rfl) ?_
  refine k_VI (As := [.int x3]) (rest := []) (c_X2_dutyTotal l X h) mf_X2_dutyTotal lk603 hx hb hml hown ht hK hZ hS hA 1 1 rfl rfl rfl ⟨rfl, rfl⟩ ⟨Nat.le_of_ble_eq_true rfl, Nat.le_of_ble_eq_true rfl⟩ rfl hl.1 rfl (Nat.le_of_ble_eq_true rfl) ⟨Nat.le_of_ble_eq_true rfl, Nat.le_of_ble_eq_true rfl⟩ ddX4_assign_36 (fun r7 σ6 H locs hS h => ?_)
  exact kx_iret hx hb hr hlocks hK hS h ddX4_assign_39 ⟨Nat.le_of_ble_eq_true rfl, Nat.le_of_ble_eq_true rfl⟩

set_option maxHeartbeats 4000000 in
set_option maxRecDepth 100000 in
theorem c_X4_canAssign (l : Launch) (X : GX) (hfl : l.stackTraces = false) {x1 x2 x3 : Int32} {σ : Mem} {K : Int32 → Mem → Prop} {KX : String → Mem → Prop} (h : wp_X4_canAssign x1 x2 x3 σ K KX) : XI l X yX4_canAssign cX4_canAssign 4 ((Option.some Jvm.ClassFile.FieldType.boolean)) ({ frames := 6, cells := 1, slots := 6, locals := 90 } : Room) 1 6 [.ref (ga X 0), .int x1, .int x2, .int x3] σ K KX := by
  refine entX (QQ := fun A => va_Qi K (BW X A) A) (by decide) (Nat.le_of_ble_eq_true rfl) ?_
  intro p e s m args below meth c A ls hx hb hr hlocks hml hown ht hK hZ hA hS hl hY hout
  have hown : s.vm.findClass "GuardRoster" = some m.cls := hown
  have hl : lv_has ls 4 [(0, .ref (ga X 0)), (1, .int x1), (2, .int x2), (3, .int x3)] := hl
  unfold wp_X4_canAssign at h
  refine lv_aload_n hx hb ddX4_canAssign_0 rfl (lv_at hl 0 rfl) ?_
  refine get_0_0 hx hb hown ht hK hS lk109 ddX4_canAssign_1 ?_
  refine lv_iload_n hx hb ddX4_canAssign_4 rfl (lv_at hl 1 rfl) ?_
  refine k_VI (As := [.int x1]) (rest := []) (c_X2_isGate l X h) mf_X2_isGate lk542 hx hb hml hown ht hK hZ hS hA 1 1 rfl rfl rfl ⟨rfl, rfl⟩ ⟨Nat.le_of_ble_eq_true rfl, Nat.le_of_ble_eq_true rfl⟩ rfl hl.1 rfl (Nat.le_of_ble_eq_true rfl) ⟨Nat.le_of_ble_eq_true rfl, Nat.le_of_ble_eq_true rfl⟩ ddX4_canAssign_5 (fun r2 σ1 H locs hS h => ?_)
  refine lv_if_eq (tgt := 33) hx hb ddX4_canAssign_8 (by decide) (fun c3 => ?_) (fun c3 => ?_)
  · replace h := h.1 c3
    exact k_thrS t_IOOBE 17 rfl hx hb hfl hown ht hY hK hZ hS h hout hlocks (hl.1.trans hml.symm) ddX4_canAssign_33 ddX4_canAssign_36 ddX4_canAssign_37 ddX4_canAssign_39 ddX4_canAssign_42 ⟨Nat.le_of_ble_eq_true rfl, Nat.le_of_ble_eq_true rfl, Nat.le_of_ble_eq_true rfl, Nat.le_of_ble_eq_true rfl⟩ ⟨Nat.le_of_ble_eq_true rfl, Nat.le_of_ble_eq_true rfl⟩
  · replace h := h.2 c3
    refine lv_aload_n hx hb ddX4_canAssign_11 rfl (lv_at hl 0 rfl) ?_
    refine get_0_0 hx hb hown ht hK hS lk109 ddX4_canAssign_12 ?_
    refine lv_iload_n hx hb ddX4_canAssign_15 rfl (lv_at hl 2 rfl) ?_
    refine k_VI (As := [.int x2]) (rest := []) (c_X2_isSlot l X h) mf_X2_isSlot lk239 hx hb hml hown ht hK hZ hS hA 1 1 rfl rfl rfl ⟨rfl, rfl⟩ ⟨Nat.le_of_ble_eq_true rfl, Nat.le_of_ble_eq_true rfl⟩ rfl hl.1 rfl (Nat.le_of_ble_eq_true rfl) ⟨Nat.le_of_ble_eq_true rfl, Nat.le_of_ble_eq_true rfl⟩ ddX4_canAssign_16 (fun r5 σ4 H locs hS h => ?_)
    refine lv_if_eq (tgt := 33) hx hb ddX4_canAssign_19 (by decide) (fun c6 => ?_) (fun c6 => ?_)
    · replace h := h.1 c6
      exact k_thrS t_IOOBE 17 rfl hx hb hfl hown ht hY hK hZ hS h hout hlocks (hl.1.trans hml.symm) ddX4_canAssign_33 ddX4_canAssign_36 ddX4_canAssign_37 ddX4_canAssign_39 ddX4_canAssign_42 ⟨Nat.le_of_ble_eq_true rfl, Nat.le_of_ble_eq_true rfl, Nat.le_of_ble_eq_true rfl, Nat.le_of_ble_eq_true rfl⟩ ⟨Nat.le_of_ble_eq_true rfl, Nat.le_of_ble_eq_true rfl⟩
    · replace h := h.2 c6
      refine lv_aload_n hx hb ddX4_canAssign_22 rfl (lv_at hl 0 rfl) ?_
      refine get_0_0 hx hb hown ht hK hS lk109 ddX4_canAssign_23 ?_
      refine lv_iload_n hx hb ddX4_canAssign_26 rfl (lv_at hl 3 rfl) ?_
      refine k_VI (As := [.int x3]) (rest := []) (c_X2_isGuard l X h) mf_X2_isGuard lk556 hx hb hml hown ht hK hZ hS hA 1 1 rfl rfl rfl ⟨rfl, rfl⟩ ⟨Nat.le_of_ble_eq_true rfl, Nat.le_of_ble_eq_true rfl⟩ rfl hl.1 rfl (Nat.le_of_ble_eq_true rfl) ⟨Nat.le_of_ble_eq_true rfl, Nat.le_of_ble_eq_true rfl⟩ ddX4_canAssign_27 (fun r8 σ7 H locs hS h => ?_)
      refine lv_if_ne (tgt := 43) hx hb ddX4_canAssign_30 (by decide) (fun c9 => ?_) (fun c9 => ?_)
      · replace h := h.1 c9
        refine lv_aload_n hx hb ddX4_canAssign_43 rfl (lv_at hl 0 rfl) ?_
        refine get_0_0 hx hb hown ht hK hS lk109 ddX4_canAssign_44 ?_
        refine lv_iload_n hx hb ddX4_canAssign_47 rfl (lv_at hl 2 rfl) ?_
        refine k_VI (As := [.int x2]) (rest := []) (c_X2_hasPassed l X h) mf_X2_hasPassed lk582 hx hb hml hown ht hK hZ hS hA 1 1 rfl rfl rfl ⟨rfl, rfl⟩ ⟨Nat.le_of_ble_eq_true rfl, Nat.le_of_ble_eq_true rfl⟩ rfl hl.1 rfl (Nat.le_of_ble_eq_true rfl) ⟨Nat.le_of_ble_eq_true rfl, Nat.le_of_ble_eq_true rfl⟩ ddX4_canAssign_48 (fun r11 σ10 H locs hS h => ?_)
        refine lv_if_ne (tgt := 71) hx hb ddX4_canAssign_51 (by decide) (fun c12 => ?_) (fun c12 => ?_)
        · replace h := h.1 c12
          refine lv_iconst (v := (0 : Int32)) hx hb ddX4_canAssign_71 (by decide) ?_
          exact kx_zret hx hb hr hlocks hK hS rfl h ddX4_canAssign_72 ⟨Nat.le_of_ble_eq_true rfl, Nat.le_of_ble_eq_true rfl⟩
        · replace h := h.2 c12
          refine lv_aload_n hx hb ddX4_canAssign_54 rfl (lv_at hl 0 rfl) ?_
          refine get_0_0 hx hb hown ht hK hS lk109 ddX4_canAssign_55 ?_
          refine lv_iload_n hx hb ddX4_canAssign_58 rfl (lv_at hl 1 rfl) ?_
          refine lv_iload_n hx hb ddX4_canAssign_59 rfl (lv_at hl 2 rfl) ?_
          refine lv_iload_n hx hb ddX4_canAssign_60 rfl (lv_at hl 3 rfl) ?_
          refine k_VI (As := [.int x1, .int x2, .int x3]) (rest := []) (c_X2_reasonAgainst l X h) mf_X2_reasonAgainst lk590 hx hb hml hown ht hK hZ hS hA 1 1 rfl rfl rfl ⟨rfl, rfl⟩ ⟨Nat.le_of_ble_eq_true rfl, Nat.le_of_ble_eq_true rfl⟩ rfl hl.1 rfl (Nat.le_of_ble_eq_true rfl) ⟨Nat.le_of_ble_eq_true rfl, Nat.le_of_ble_eq_true rfl⟩ ddX4_canAssign_61 (fun r14 σ13 H locs hS h => ?_)
          refine lv_if_ne (tgt := 71) hx hb ddX4_canAssign_64 (by decide) (fun c15 => ?_) (fun c15 => ?_)
          · replace h := h.1 c15
            refine lv_iconst (v := (0 : Int32)) hx hb ddX4_canAssign_71 (by decide) ?_
            exact kx_zret hx hb hr hlocks hK hS rfl h ddX4_canAssign_72 ⟨Nat.le_of_ble_eq_true rfl, Nat.le_of_ble_eq_true rfl⟩
          · replace h := h.2 c15
            refine lv_iconst (v := (1 : Int32)) hx hb ddX4_canAssign_67 (by decide) ?_
            refine lv_goto (tgt := 72) hx hb ddX4_canAssign_68 (by decide) ?_
            exact kx_zret hx hb hr hlocks hK hS rfl h ddX4_canAssign_72 ⟨Nat.le_of_ble_eq_true rfl, Nat.le_of_ble_eq_true rfl⟩
      · replace h := h.2 c9
        exact k_thrS t_IOOBE 17 rfl hx hb hfl hown ht hY hK hZ hS h hout hlocks (hl.1.trans hml.symm) ddX4_canAssign_33 ddX4_canAssign_36 ddX4_canAssign_37 ddX4_canAssign_39 ddX4_canAssign_42 ⟨Nat.le_of_ble_eq_true rfl, Nat.le_of_ble_eq_true rfl, Nat.le_of_ble_eq_true rfl, Nat.le_of_ble_eq_true rfl⟩ ⟨Nat.le_of_ble_eq_true rfl, Nat.le_of_ble_eq_true rfl⟩

set_option maxHeartbeats 4000000 in
set_option maxRecDepth 100000 in
theorem c_X4_remove (l : Launch) (X : GX) (hfl : l.stackTraces = false) {x1 x2 : Int32} {σ : Mem} {K : Int32 → Mem → Prop} {KX : String → Mem → Prop} (h : wp_X4_remove x1 x2 σ K KX) : XI l X yX4_remove cX4_remove 4 ((Option.some Jvm.ClassFile.FieldType.int)) ({ frames := 7, cells := 1, slots := 6, locals := 143 } : Room) 1 6 [.ref (ga X 0), .int x1, .int x2] σ K KX := by
  refine entX (QQ := fun A => va_Qi K (BW X A) A) (by decide) (Nat.le_of_ble_eq_true rfl) ?_
  intro p e s m args below meth c A ls hx hb hr hlocks hml hown ht hK hZ hA hS hl hY hout
  have hown : s.vm.findClass "GuardRoster" = some m.cls := hown
  have hl : lv_has ls 4 [(0, .ref (ga X 0)), (1, .int x1), (2, .int x2)] := hl
  unfold wp_X4_remove at h
  refine lv_aload_n hx hb ddX4_remove_0 rfl (lv_at hl 0 rfl) ?_
  refine lv_iload_n hx hb ddX4_remove_1 rfl (lv_at hl 1 rfl) ?_
  refine lv_iload_n hx hb ddX4_remove_2 rfl (lv_at hl 2 rfl) ?_
  refine k_VI (As := [.int x1, .int x2]) (rest := []) (c_X4_problemOfFreeing l X h) mf_X4_problemOfFreeing lk622 hx hb hml hown ht hK hZ hS hA 0 0 rfl rfl rfl ⟨rfl, rfl⟩ ⟨Nat.le_of_ble_eq_true rfl, Nat.le_of_ble_eq_true rfl⟩ rfl hl.1 rfl (Nat.le_of_ble_eq_true rfl) ⟨Nat.le_of_ble_eq_true rfl, Nat.le_of_ble_eq_true rfl⟩ ddX4_remove_3 (fun r2 σ1 H locs hS h => ?_)
  refine kx_SV (As := [.int r2]) (rest := []) (c_X4_throwFor l X hfl h) mf_X4_throwFor lk411 hx hb hml hown ht hK hZ hS hA hY ⟨rfl, rfl⟩ ⟨Nat.le_of_ble_eq_true rfl, Nat.le_of_ble_eq_true rfl⟩ rfl hl.1 rfl (Nat.le_of_ble_eq_true rfl) ⟨Nat.le_of_ble_eq_true rfl, Nat.le_of_ble_eq_true rfl⟩ ddX4_remove_6 hout hlocks ⟨Nat.le_of_ble_eq_true rfl, Nat.le_of_ble_eq_true rfl⟩ (fun σ3 H locs hS h => ?_)
  refine lv_aload_n hx hb ddX4_remove_9 rfl (lv_at hl 0 rfl) ?_
  refine get_0_1 hx hb hown ht hK hS lk110 ddX4_remove_10 ?_
  refine lv_aload_n hx hb ddX4_remove_13 rfl (lv_at hl 0 rfl) ?_
  refine get_0_0 hx hb hown ht hK hS lk109 ddX4_remove_14 ?_
  refine k_VV (As := [.ref (ga X 1)]) (rest := []) (c_X1_keep l X h) mf_X1_keep lk479 hx hb hml hown ht hK hZ hS hA 4 2 rfl rfl rfl ⟨rfl, rfl⟩ ⟨Nat.le_of_ble_eq_true rfl, Nat.le_of_ble_eq_true rfl⟩ rfl hl.1 rfl (Nat.le_of_ble_eq_true rfl) ⟨Nat.le_of_ble_eq_true rfl, Nat.le_of_ble_eq_true rfl⟩ ddX4_remove_17 (fun σ4 H locs hS h => ?_)
  refine lv_aload_n hx hb ddX4_remove_20 rfl (lv_at hl 0 rfl) ?_
  refine get_0_0 hx hb hown ht hK hS lk109 ddX4_remove_21 ?_
  refine lv_iload_n hx hb ddX4_remove_24 rfl (lv_at hl 1 rfl) ?_
  refine lv_iload_n hx hb ddX4_remove_25 rfl (lv_at hl 2 rfl) ?_
  refine k_VI (As := [.int x1, .int x2]) (rest := []) (c_X2_guardOn l X h) mf_X2_guardOn lk626 hx hb hml hown ht hK hZ hS hA 1 1 rfl rfl rfl ⟨rfl, rfl⟩ ⟨Nat.le_of_ble_eq_true rfl, Nat.le_of_ble_eq_true rfl⟩ rfl hl.1 rfl (Nat.le_of_ble_eq_true rfl) ⟨Nat.le_of_ble_eq_true rfl, Nat.le_of_ble_eq_true rfl⟩ ddX4_remove_26 (fun r6 σ5 H locs hS h => ?_)
  refine lv_istore_n (lv' := [(3, .int r6), (0, .ref (ga X 0)), (1, .int x1), (2, .int x2)]) hx hb ddX4_remove_29 rfl hl (by decide) rfl (fun ls hl => ?_)
  refine lv_aload_n hx hb ddX4_remove_30 rfl (lv_at hl 1 rfl) ?_
  refine get_0_0 hx hb hown ht hK hS lk109 ddX4_remove_31 ?_
  refine lv_iload_n hx hb ddX4_remove_34 rfl (lv_at hl 2 rfl) ?_
  refine lv_iload_n hx hb ddX4_remove_35 rfl (lv_at hl 3 rfl) ?_
  refine lv_iconst (v := (-1 : Int32)) hx hb ddX4_remove_36 (by decide) ?_
  refine k_VV (As := [.int x1, .int x2, .int (-1 : Int32)]) (rest := []) (c_X2_setDuty l X h) mf_X2_setDuty lk599 hx hb hml hown ht hK hZ hS hA 1 1 rfl rfl rfl ⟨rfl, rfl⟩ ⟨Nat.le_of_ble_eq_true rfl, Nat.le_of_ble_eq_true rfl⟩ rfl hl.1 rfl (Nat.le_of_ble_eq_true rfl) ⟨Nat.le_of_ble_eq_true rfl, Nat.le_of_ble_eq_true rfl⟩ ddX4_remove_37 (fun σ7 H locs hS h => ?_)
  refine lv_iload_n hx hb ddX4_remove_40 rfl (lv_at hl 0 rfl) ?_
  exact kx_iret hx hb hr hlocks hK hS h ddX4_remove_41 ⟨Nat.le_of_ble_eq_true rfl, Nat.le_of_ble_eq_true rfl⟩

set_option maxHeartbeats 4000000 in
set_option maxRecDepth 100000 in
theorem c_X4_exchange (l : Launch) (X : GX) (hfl : l.stackTraces = false) {x1 x2 x3 x4 : Int32} {σ : Mem} {K : Int32 → Mem → Prop} {KX : String → Mem → Prop} (h : wp_X4_exchange x1 x2 x3 x4 σ K KX) : XI l X yX4_exchange cX4_exchange 7 ((Option.some Jvm.ClassFile.FieldType.int)) ({ frames := 7, cells := 1, slots := 6, locals := 143 } : Room) 1 6 [.ref (ga X 0), .int x1, .int x2, .int x3, .int x4] σ K KX := by
  refine entX (QQ := fun A => va_Qi K (BW X A) A) (by decide) (Nat.le_of_ble_eq_true rfl) ?_
  intro p e s m args below meth c A ls hx hb hr hlocks hml hown ht hK hZ hA hS hl hY hout
  have hown : s.vm.findClass "GuardRoster" = some m.cls := hown
  have hl : lv_has ls 7 [(0, .ref (ga X 0)), (1, .int x1), (2, .int x2), (3, .int x3), (4, .int x4)] := hl
  unfold wp_X4_exchange at h
  refine lv_aload_n hx hb ddX4_exchange_0 rfl (lv_at hl 0 rfl) ?_
  refine lv_iload_n hx hb ddX4_exchange_1 rfl (lv_at hl 1 rfl) ?_
  refine lv_iload_n hx hb ddX4_exchange_2 rfl (lv_at hl 2 rfl) ?_
  refine lv_iload_n hx hb ddX4_exchange_3 rfl (lv_at hl 3 rfl) ?_
  refine lv_iload hx hb ddX4_exchange_4 (lv_at hl 4 rfl) ?_
  refine k_VI (As := [.int x1, .int x2, .int x3, .int x4]) (rest := []) (c_X4_problemOfExchange l X h) mf_X4_problemOfExchange lk634 hx hb hml hown ht hK hZ hS hA 0 0 rfl rfl rfl ⟨rfl, rfl⟩ ⟨Nat.le_of_ble_eq_true rfl, Nat.le_of_ble_eq_true rfl⟩ rfl hl.1 rfl (Nat.le_of_ble_eq_true rfl) ⟨Nat.le_of_ble_eq_true rfl, Nat.le_of_ble_eq_true rfl⟩ ddX4_exchange_6 (fun r2 σ1 H locs hS h => ?_)
  refine kx_SV (As := [.int r2]) (rest := []) (c_X4_throwFor l X hfl h) mf_X4_throwFor lk411 hx hb hml hown ht hK hZ hS hA hY ⟨rfl, rfl⟩ ⟨Nat.le_of_ble_eq_true rfl, Nat.le_of_ble_eq_true rfl⟩ rfl hl.1 rfl (Nat.le_of_ble_eq_true rfl) ⟨Nat.le_of_ble_eq_true rfl, Nat.le_of_ble_eq_true rfl⟩ ddX4_exchange_9 hout hlocks ⟨Nat.le_of_ble_eq_true rfl, Nat.le_of_ble_eq_true rfl⟩ (fun σ3 H locs hS h => ?_)
  refine lv_aload_n hx hb ddX4_exchange_12 rfl (lv_at hl 0 rfl) ?_
  refine get_0_1 hx hb hown ht hK hS lk110 ddX4_exchange_13 ?_
  refine lv_aload_n hx hb ddX4_exchange_16 rfl (lv_at hl 0 rfl) ?_
  refine get_0_0 hx hb hown ht hK hS lk109 ddX4_exchange_17 ?_
  refine k_VV (As := [.ref (ga X 1)]) (rest := []) (c_X1_keep l X h) mf_X1_keep lk479 hx hb hml hown ht hK hZ hS hA 4 2 rfl rfl rfl ⟨rfl, rfl⟩ ⟨Nat.le_of_ble_eq_true rfl, Nat.le_of_ble_eq_true rfl⟩ rfl hl.1 rfl (Nat.le_of_ble_eq_true rfl) ⟨Nat.le_of_ble_eq_true rfl, Nat.le_of_ble_eq_true rfl⟩ ddX4_exchange_20 (fun σ4 H locs hS h => ?_)
  refine lv_aload_n hx hb ddX4_exchange_23 rfl (lv_at hl 0 rfl) ?_
  refine get_0_0 hx hb hown ht hK hS lk109 ddX4_exchange_24 ?_
  refine lv_iload_n hx hb ddX4_exchange_27 rfl (lv_at hl 1 rfl) ?_
  refine lv_iload_n hx hb ddX4_exchange_28 rfl (lv_at hl 2 rfl) ?_
  refine k_VI (As := [.int x1, .int x2]) (rest := []) (c_X2_guardOn l X h) mf_X2_guardOn lk626 hx hb hml hown ht hK hZ hS hA 1 1 rfl rfl rfl ⟨rfl, rfl⟩ ⟨Nat.le_of_ble_eq_true rfl, Nat.le_of_ble_eq_true rfl⟩ rfl hl.1 rfl (Nat.le_of_ble_eq_true rfl) ⟨Nat.le_of_ble_eq_true rfl, Nat.le_of_ble_eq_true rfl⟩ ddX4_exchange_29 (fun r6 σ5 H locs hS h => ?_)
  refine lv_istore (lv' := [(5, .int r6), (0, .ref (ga X 0)), (1, .int x1), (2, .int x2), (3, .int x3), (4, .int x4)]) hx hb ddX4_exchange_32 hl (by decide) rfl (fun ls hl => ?_)
  refine lv_aload_n hx hb ddX4_exchange_34 rfl (lv_at hl 1 rfl) ?_
  refine get_0_0 hx hb hown ht hK hS lk109 ddX4_exchange_35 ?_
  refine lv_iload_n hx hb ddX4_exchange_38 rfl (lv_at hl 4 rfl) ?_
  refine lv_iload hx hb ddX4_exchange_39 (lv_at hl 5 rfl) ?_
  refine k_VI (As := [.int x3, .int x4]) (rest := []) (c_X2_guardOn l X h) mf_X2_guardOn lk626 hx hb hml hown ht hK hZ hS hA 1 1 rfl rfl rfl ⟨rfl, rfl⟩ ⟨Nat.le_of_ble_eq_true rfl, Nat.le_of_ble_eq_true rfl⟩ rfl hl.1 rfl (Nat.le_of_ble_eq_true rfl) ⟨Nat.le_of_ble_eq_true rfl, Nat.le_of_ble_eq_true rfl⟩ ddX4_exchange_41 (fun r8 σ7 H locs hS h => ?_)
  refine lv_istore (lv' := [(6, .int r8), (5, .int r6), (0, .ref (ga X 0)), (1, .int x1), (2, .int x2), (3, .int x3), (4, .int x4)]) hx hb ddX4_exchange_44 hl (by decide) rfl (fun ls hl => ?_)
  refine lv_aload_n hx hb ddX4_exchange_46 rfl (lv_at hl 2 rfl) ?_
  refine get_0_0 hx hb hown ht hK hS lk109 ddX4_exchange_47 ?_
  refine lv_iload_n hx hb ddX4_exchange_50 rfl (lv_at hl 3 rfl) ?_
  refine lv_iload_n hx hb ddX4_exchange_51 rfl (lv_at hl 4 rfl) ?_
  refine lv_iload hx hb ddX4_exchange_52 (lv_at hl 0 rfl) ?_
  refine k_VV (As := [.int x1, .int x2, .int r8]) (rest := []) (c_X2_setDuty l X h) mf_X2_setDuty lk599 hx hb hml hown ht hK hZ hS hA 1 1 rfl rfl rfl ⟨rfl, rfl⟩ ⟨Nat.le_of_ble_eq_true rfl, Nat.le_of_ble_eq_true rfl⟩ rfl hl.1 rfl (Nat.le_of_ble_eq_true rfl) ⟨Nat.le_of_ble_eq_true rfl, Nat.le_of_ble_eq_true rfl⟩ ddX4_exchange_54 (fun σ9 H locs hS h => ?_)
  refine lv_aload_n hx hb ddX4_exchange_57 rfl (lv_at hl 2 rfl) ?_
  refine get_0_0 hx hb hown ht hK hS lk109 ddX4_exchange_58 ?_
  refine lv_iload_n hx hb ddX4_exchange_61 rfl (lv_at hl 5 rfl) ?_
  refine lv_iload hx hb ddX4_exchange_62 (lv_at hl 6 rfl) ?_
  refine lv_iload hx hb ddX4_exchange_64 (lv_at hl 1 rfl) ?_
  refine k_VV (As := [.int x3, .int x4, .int r6]) (rest := []) (c_X2_setDuty l X h) mf_X2_setDuty lk599 hx hb hml hown ht hK hZ hS hA 1 1 rfl rfl rfl ⟨rfl, rfl⟩ ⟨Nat.le_of_ble_eq_true rfl, Nat.le_of_ble_eq_true rfl⟩ rfl hl.1 rfl (Nat.le_of_ble_eq_true rfl) ⟨Nat.le_of_ble_eq_true rfl, Nat.le_of_ble_eq_true rfl⟩ ddX4_exchange_66 (fun σ10 H locs hS h => ?_)
  refine lv_iload hx hb ddX4_exchange_69 (lv_at hl 0 rfl) ?_
  exact kx_iret hx hb hr hlocks hK hS h ddX4_exchange_71 ⟨Nat.le_of_ble_eq_true rfl, Nat.le_of_ble_eq_true rfl⟩

set_option maxHeartbeats 4000000 in
set_option maxRecDepth 100000 in
theorem c_X4_fillSlot (l : Launch) (X : GX) (hfl : l.stackTraces = false) {x1 : Int32} {σ : Mem} {K : Int32 → Mem → Prop} {KX : String → Mem → Prop} (h : wp_X4_fillSlot x1 σ K KX) : XI l X yX4_fillSlot cX4_fillSlot 2 ((Option.some Jvm.ClassFile.FieldType.int)) ({ frames := 7, cells := 1, slots := 6, locals := 143 } : Room) 1 6 [.ref (ga X 0), .int x1] σ K KX := by
  refine entX (QQ := fun A => va_Qi K (BW X A) A) (by decide) (Nat.le_of_ble_eq_true rfl) ?_
  intro p e s m args below meth c A ls hx hb hr hlocks hml hown ht hK hZ hA hS hl hY hout
  have hown : s.vm.findClass "GuardRoster" = some m.cls := hown
  have hl : lv_has ls 2 [(0, .ref (ga X 0)), (1, .int x1)] := hl
  unfold wp_X4_fillSlot at h
  refine lv_aload_n hx hb ddX4_fillSlot_0 rfl (lv_at hl 0 rfl) ?_
  refine lv_iload_n hx hb ddX4_fillSlot_1 rfl (lv_at hl 1 rfl) ?_
  refine k_VI (As := [.int x1]) (rest := []) (c_X4_problemOfFilling l X h) mf_X4_problemOfFilling lk649 hx hb hml hown ht hK hZ hS hA 0 0 rfl rfl rfl ⟨rfl, rfl⟩ ⟨Nat.le_of_ble_eq_true rfl, Nat.le_of_ble_eq_true rfl⟩ rfl hl.1 rfl (Nat.le_of_ble_eq_true rfl) ⟨Nat.le_of_ble_eq_true rfl, Nat.le_of_ble_eq_true rfl⟩ ddX4_fillSlot_2 (fun r2 σ1 H locs hS h => ?_)
  refine kx_SV (As := [.int r2]) (rest := []) (c_X4_throwFor l X hfl h) mf_X4_throwFor lk411 hx hb hml hown ht hK hZ hS hA hY ⟨rfl, rfl⟩ ⟨Nat.le_of_ble_eq_true rfl, Nat.le_of_ble_eq_true rfl⟩ rfl hl.1 rfl (Nat.le_of_ble_eq_true rfl) ⟨Nat.le_of_ble_eq_true rfl, Nat.le_of_ble_eq_true rfl⟩ ddX4_fillSlot_5 hout hlocks ⟨Nat.le_of_ble_eq_true rfl, Nat.le_of_ble_eq_true rfl⟩ (fun σ3 H locs hS h => ?_)
  refine lv_aload_n hx hb ddX4_fillSlot_8 rfl (lv_at hl 0 rfl) ?_
  refine get_0_1 hx hb hown ht hK hS lk110 ddX4_fillSlot_9 ?_
  refine lv_aload_n hx hb ddX4_fillSlot_12 rfl (lv_at hl 0 rfl) ?_
  refine get_0_0 hx hb hown ht hK hS lk109 ddX4_fillSlot_13 ?_
  refine k_VV (As := [.ref (ga X 1)]) (rest := []) (c_X1_keep l X h) mf_X1_keep lk479 hx hb hml hown ht hK hZ hS hA 4 2 rfl rfl rfl ⟨rfl, rfl⟩ ⟨Nat.le_of_ble_eq_true rfl, Nat.le_of_ble_eq_true rfl⟩ rfl hl.1 rfl (Nat.le_of_ble_eq_true rfl) ⟨Nat.le_of_ble_eq_true rfl, Nat.le_of_ble_eq_true rfl⟩ ddX4_fillSlot_16 (fun σ4 H locs hS h => ?_)
  refine lv_aload_n hx hb ddX4_fillSlot_19 rfl (lv_at hl 0 rfl) ?_
  refine get_0_0 hx hb hown ht hK hS lk109 ddX4_fillSlot_20 ?_
  refine lv_iload_n hx hb ddX4_fillSlot_23 rfl (lv_at hl 1 rfl) ?_
  refine k_VI (As := [.int x1]) (rest := []) (c_X2_fill l X h) mf_X2_fill lk653 hx hb hml hown ht hK hZ hS hA 1 1 rfl rfl rfl ⟨rfl, rfl⟩ ⟨Nat.le_of_ble_eq_true rfl, Nat.le_of_ble_eq_true rfl⟩ rfl hl.1 rfl (Nat.le_of_ble_eq_true rfl) ⟨Nat.le_of_ble_eq_true rfl, Nat.le_of_ble_eq_true rfl⟩ ddX4_fillSlot_24 (fun r6 σ5 H locs hS h => ?_)
  exact kx_iret hx hb hr hlocks hK hS h ddX4_fillSlot_27 ⟨Nat.le_of_ble_eq_true rfl, Nat.le_of_ble_eq_true rfl⟩

set_option maxHeartbeats 4000000 in
set_option maxRecDepth 100000 in
theorem c_X4_guardAt (l : Launch) (X : GX) (hfl : l.stackTraces = false) {x1 x2 : Int32} {σ : Mem} {K : Int32 → Mem → Prop} {KX : String → Mem → Prop} (h : wp_X4_guardAt x1 x2 σ K KX) : XI l X yX4_guardAt cX4_guardAt 4 ((Option.some Jvm.ClassFile.FieldType.int)) ({ frames := 6, cells := 1, slots := 6, locals := 90 } : Room) 1 6 [.ref (ga X 0), .int x1, .int x2] σ K KX := by
  refine entX (QQ := fun A => va_Qi K (BW X A) A) (by decide) (Nat.le_of_ble_eq_true rfl) ?_
  intro p e s m args below meth c A ls hx hb hr hlocks hml hown ht hK hZ hA hS hl hY hout
  have hown : s.vm.findClass "GuardRoster" = some m.cls := hown
  have hl : lv_has ls 4 [(0, .ref (ga X 0)), (1, .int x1), (2, .int x2)] := hl
  unfold wp_X4_guardAt at h
  refine lv_aload_n hx hb ddX4_guardAt_0 rfl (lv_at hl 0 rfl) ?_
  refine get_0_0 hx hb hown ht hK hS lk109 ddX4_guardAt_1 ?_
  refine lv_iload_n hx hb ddX4_guardAt_4 rfl (lv_at hl 1 rfl) ?_
  refine k_VI (As := [.int x1]) (rest := []) (c_X2_isGate l X h) mf_X2_isGate lk542 hx hb hml hown ht hK hZ hS hA 1 1 rfl rfl rfl ⟨rfl, rfl⟩ ⟨Nat.le_of_ble_eq_true rfl, Nat.le_of_ble_eq_true rfl⟩ rfl hl.1 rfl (Nat.le_of_ble_eq_true rfl) ⟨Nat.le_of_ble_eq_true rfl, Nat.le_of_ble_eq_true rfl⟩ ddX4_guardAt_5 (fun r2 σ1 H locs hS h => ?_)
  refine lv_if_eq (tgt := 22) hx hb ddX4_guardAt_8 (by decide) (fun c3 => ?_) (fun c3 => ?_)
  · replace h := h.1 c3
    exact k_thrS t_IOOBE 24 rfl hx hb hfl hown ht hY hK hZ hS h hout hlocks (hl.1.trans hml.symm) ddX4_guardAt_22 ddX4_guardAt_25 ddX4_guardAt_26 ddX4_guardAt_28 ddX4_guardAt_31 ⟨Nat.le_of_ble_eq_true rfl, Nat.le_of_ble_eq_true rfl, Nat.le_of_ble_eq_true rfl, Nat.le_of_ble_eq_true rfl⟩ ⟨Nat.le_of_ble_eq_true rfl, Nat.le_of_ble_eq_true rfl⟩
  · replace h := h.2 c3
    refine lv_aload_n hx hb ddX4_guardAt_11 rfl (lv_at hl 0 rfl) ?_
    refine get_0_0 hx hb hown ht hK hS lk109 ddX4_guardAt_12 ?_
    refine lv_iload_n hx hb ddX4_guardAt_15 rfl (lv_at hl 2 rfl) ?_
    refine k_VI (As := [.int x2]) (rest := []) (c_X2_isSlot l X h) mf_X2_isSlot lk239 hx hb hml hown ht hK hZ hS hA 1 1 rfl rfl rfl ⟨rfl, rfl⟩ ⟨Nat.le_of_ble_eq_true rfl, Nat.le_of_ble_eq_true rfl⟩ rfl hl.1 rfl (Nat.le_of_ble_eq_true rfl) ⟨Nat.le_of_ble_eq_true rfl, Nat.le_of_ble_eq_true rfl⟩ ddX4_guardAt_16 (fun r5 σ4 H locs hS h => ?_)
    refine lv_if_ne (tgt := 32) hx hb ddX4_guardAt_19 (by decide) (fun c6 => ?_) (fun c6 => ?_)
    · replace h := h.1 c6
      refine lv_aload_n hx hb ddX4_guardAt_32 rfl (lv_at hl 0 rfl) ?_
      refine get_0_0 hx hb hown ht hK hS lk109 ddX4_guardAt_33 ?_
      refine lv_iload_n hx hb ddX4_guardAt_36 rfl (lv_at hl 1 rfl) ?_
      refine lv_iload_n hx hb ddX4_guardAt_37 rfl (lv_at hl 2 rfl) ?_
      refine k_VI (As := [.int x1, .int x2]) (rest := []) (c_X2_guardOn l X h) mf_X2_guardOn lk626 hx hb hml hown ht hK hZ hS hA 1 1 rfl rfl rfl ⟨rfl, rfl⟩ ⟨Nat.le_of_ble_eq_true rfl, Nat.le_of_ble_eq_true rfl⟩ rfl hl.1 rfl (Nat.le_of_ble_eq_true rfl) ⟨Nat.le_of_ble_eq_true rfl, Nat.le_of_ble_eq_true rfl⟩ ddX4_guardAt_38 (fun r8 σ7 H locs hS h => ?_)
      refine lv_istore_n (lv' := [(3, .int r8), (0, .ref (ga X 0)), (1, .int x1), (2, .int x2)]) hx hb ddX4_guardAt_41 rfl hl (by decide) rfl (fun ls hl => ?_)
      refine lv_iload_n hx hb ddX4_guardAt_42 rfl (lv_at hl 0 rfl) ?_
      refine lv_iconst (v := (-1 : Int32)) hx hb ddX4_guardAt_43 (by decide) ?_
      refine lv_icmp_ne (tgt := 57) hx hb ddX4_guardAt_44 (by decide) (fun c9 => ?_) (fun c9 => ?_)
      · replace h := h.1 c9
        refine lv_iload_n hx hb ddX4_guardAt_57 rfl (lv_at hl 0 rfl) ?_
        exact kx_iret hx hb hr hlocks hK hS h ddX4_guardAt_58 ⟨Nat.le_of_ble_eq_true rfl, Nat.le_of_ble_eq_true rfl⟩
      · replace h := h.2 c9
        exact k_thrSN 25 rfl hx hb hfl hown ht hY hK hZ hS h hout hlocks (hl.1.trans hml.symm) ddX4_guardAt_47 ddX4_guardAt_50 ddX4_guardAt_51 ddX4_guardAt_53 ddX4_guardAt_56 ⟨Nat.le_of_ble_eq_true rfl, Nat.le_of_ble_eq_true rfl, Nat.le_of_ble_eq_true rfl, Nat.le_of_ble_eq_true rfl⟩ ⟨Nat.le_of_ble_eq_true rfl, Nat.le_of_ble_eq_true rfl⟩
    · replace h := h.2 c6
      exact k_thrS t_IOOBE 24 rfl hx hb hfl hown ht hY hK hZ hS h hout hlocks (hl.1.trans hml.symm) ddX4_guardAt_22 ddX4_guardAt_25 ddX4_guardAt_26 ddX4_guardAt_28 ddX4_guardAt_31 ⟨Nat.le_of_ble_eq_true rfl, Nat.le_of_ble_eq_true rfl, Nat.le_of_ble_eq_true rfl, Nat.le_of_ble_eq_true rfl⟩ ⟨Nat.le_of_ble_eq_true rfl, Nat.le_of_ble_eq_true rfl⟩

set_option maxHeartbeats 4000000 in
set_option maxRecDepth 100000 in
theorem c_X4_gateOf (l : Launch) (X : GX) (hfl : l.stackTraces = false) {x1 x2 : Int32} {σ : Mem} {K : Int32 → Mem → Prop} {KX : String → Mem → Prop} (h : wp_X4_gateOf x1 x2 σ K KX) : XI l X yX4_gateOf cX4_gateOf 4 ((Option.some Jvm.ClassFile.FieldType.int)) ({ frames := 8, cells := 3, slots := 18, locals := 133 } : Room) 3 18 [.ref (ga X 0), .int x1, .int x2] σ K KX := by
  refine entX (QQ := fun A => va_Qi K (BW X A) A) (by decide) (Nat.le_of_ble_eq_true rfl) ?_
  intro p e s m args below meth c A ls hx hb hr hlocks hml hown ht hK hZ hA hS hl hY hout
  have hown : s.vm.findClass "GuardRoster" = some m.cls := hown
  have hl : lv_has ls 4 [(0, .ref (ga X 0)), (1, .int x1), (2, .int x2)] := hl
  unfold wp_X4_gateOf at h
  refine lv_aload_n hx hb ddX4_gateOf_0 rfl (lv_at hl 0 rfl) ?_
  refine lv_iload_n hx hb ddX4_gateOf_1 rfl (lv_at hl 1 rfl) ?_
  refine lv_iload_n hx hb ddX4_gateOf_2 rfl (lv_at hl 2 rfl) ?_
  refine kx_VV (As := [.int x1, .int x2]) (rest := []) (c_X4_throwUnlessGuardAndSlot l X hfl h) mf_X4_throwUnlessGuardAndSlot lk688 hx hb hml hown ht hK hZ hS hA hY 0 0 rfl rfl rfl ⟨rfl, rfl⟩ ⟨Nat.le_of_ble_eq_true rfl, Nat.le_of_ble_eq_true rfl⟩ rfl hl.1 rfl (Nat.le_of_ble_eq_true rfl) ⟨Nat.le_of_ble_eq_true rfl, Nat.le_of_ble_eq_true rfl⟩ ddX4_gateOf_3 hout hlocks ⟨Nat.le_of_ble_eq_true rfl, Nat.le_of_ble_eq_true rfl⟩ (fun σ1 H locs hS h => ?_)
  refine lv_aload_n hx hb ddX4_gateOf_6 rfl (lv_at hl 0 rfl) ?_
  refine get_0_0 hx hb hown ht hK hS lk109 ddX4_gateOf_7 ?_
  refine lv_iload_n hx hb ddX4_gateOf_10 rfl (lv_at hl 1 rfl) ?_
  refine lv_iload_n hx hb ddX4_gateOf_11 rfl (lv_at hl 2 rfl) ?_
  refine k_VI (As := [.int x1, .int x2]) (rest := []) (c_X2_gateHeld l X h) mf_X2_gateHeld lk692 hx hb hml hown ht hK hZ hS hA 1 1 rfl rfl rfl ⟨rfl, rfl⟩ ⟨Nat.le_of_ble_eq_true rfl, Nat.le_of_ble_eq_true rfl⟩ rfl hl.1 rfl (Nat.le_of_ble_eq_true rfl) ⟨Nat.le_of_ble_eq_true rfl, Nat.le_of_ble_eq_true rfl⟩ ddX4_gateOf_12 (fun r3 σ2 H locs hS h => ?_)
  refine lv_istore_n (lv' := [(3, .int r3), (0, .ref (ga X 0)), (1, .int x1), (2, .int x2)]) hx hb ddX4_gateOf_15 rfl hl (by decide) rfl (fun ls hl => ?_)
  refine lv_iload_n hx hb ddX4_gateOf_16 rfl (lv_at hl 0 rfl) ?_
  refine lv_iconst (v := (-1 : Int32)) hx hb ddX4_gateOf_17 (by decide) ?_
  refine lv_icmp_ne (tgt := 31) hx hb ddX4_gateOf_18 (by decide) (fun c4 => ?_) (fun c4 => ?_)
  · replace h := h.1 c4
    refine lv_iload_n hx hb ddX4_gateOf_31 rfl (lv_at hl 0 rfl) ?_
    exact kx_iret hx hb hr hlocks hK hS h ddX4_gateOf_32 ⟨Nat.le_of_ble_eq_true rfl, Nat.le_of_ble_eq_true rfl⟩
  · replace h := h.2 c4
    exact k_thrSN 26 rfl hx hb hfl hown ht hY hK hZ hS h hout hlocks (hl.1.trans hml.symm) ddX4_gateOf_21 ddX4_gateOf_24 ddX4_gateOf_25 ddX4_gateOf_27 ddX4_gateOf_30 ⟨Nat.le_of_ble_eq_true rfl, Nat.le_of_ble_eq_true rfl, Nat.le_of_ble_eq_true rfl, Nat.le_of_ble_eq_true rfl⟩ ⟨Nat.le_of_ble_eq_true rfl, Nat.le_of_ble_eq_true rfl⟩

set_option maxHeartbeats 4000000 in
set_option maxRecDepth 100000 in
theorem c_X4_dutiesOf (l : Launch) (X : GX) (hfl : l.stackTraces = false) {x1 : Int32} {σ : Mem} {K : Int32 → Mem → Prop} {KX : String → Mem → Prop} (h : wp_X4_dutiesOf x1 σ K KX) : XI l X yX4_dutiesOf cX4_dutiesOf 2 ((Option.some Jvm.ClassFile.FieldType.int)) ({ frames := 7, cells := 1, slots := 6, locals := 111 } : Room) 1 6 [.ref (ga X 0), .int x1] σ K KX := by
  refine entX (QQ := fun A => va_Qi K (BW X A) A) (by decide) (Nat.le_of_ble_eq_true rfl) ?_
  intro p e s m args below meth c A ls hx hb hr hlocks hml hown ht hK hZ hA hS hl hY hout
  have hown : s.vm.findClass "GuardRoster" = some m.cls := hown
  have hl : lv_has ls 2 [(0, .ref (ga X 0)), (1, .int x1)] := hl
  unfold wp_X4_dutiesOf at h
  refine lv_aload_n hx hb ddX4_dutiesOf_0 rfl (lv_at hl 0 rfl) ?_
  refine lv_iload_n hx hb ddX4_dutiesOf_1 rfl (lv_at hl 1 rfl) ?_
  refine kx_VV (As := [.int x1]) (rest := []) (c_X4_throwUnlessGuard l X hfl h) mf_X4_throwUnlessGuard lk552 hx hb hml hown ht hK hZ hS hA hY 0 0 rfl rfl rfl ⟨rfl, rfl⟩ ⟨Nat.le_of_ble_eq_true rfl, Nat.le_of_ble_eq_true rfl⟩ rfl hl.1 rfl (Nat.le_of_ble_eq_true rfl) ⟨Nat.le_of_ble_eq_true rfl, Nat.le_of_ble_eq_true rfl⟩ ddX4_dutiesOf_2 hout hlocks ⟨Nat.le_of_ble_eq_true rfl, Nat.le_of_ble_eq_true rfl⟩ (fun σ1 H locs hS h => ?_)
  refine lv_aload_n hx hb ddX4_dutiesOf_5 rfl (lv_at hl 0 rfl) ?_
  refine get_0_0 hx hb hown ht hK hS lk109 ddX4_dutiesOf_6 ?_
  refine lv_iload_n hx hb ddX4_dutiesOf_9 rfl (lv_at hl 1 rfl) ?_
  refine k_VI (As := [.int x1]) (rest := []) (c_X2_dutyTotal l X h) mf_X2_dutyTotal lk603 hx hb hml hown ht hK hZ hS hA 1 1 rfl rfl rfl ⟨rfl, rfl⟩ ⟨Nat.le_of_ble_eq_true rfl, Nat.le_of_ble_eq_true rfl⟩ rfl hl.1 rfl (Nat.le_of_ble_eq_true rfl) ⟨Nat.le_of_ble_eq_true rfl, Nat.le_of_ble_eq_true rfl⟩ ddX4_dutiesOf_10 (fun r3 σ2 H locs hS h => ?_)
  exact kx_iret hx hb hr hlocks hK hS h ddX4_dutiesOf_13 ⟨Nat.le_of_ble_eq_true rfl, Nat.le_of_ble_eq_true rfl⟩

set_option maxHeartbeats 4000000 in
set_option maxRecDepth 100000 in
theorem c_X4_openGates (l : Launch) (X : GX) (hfl : l.stackTraces = false) {x1 : Int32} {σ : Mem} {K : Int32 → Mem → Prop} {KX : String → Mem → Prop} (h : wp_X4_openGates x1 σ K KX) : XI l X yX4_openGates cX4_openGates 2 ((Option.some Jvm.ClassFile.FieldType.int)) ({ frames := 7, cells := 1, slots := 6, locals := 111 } : Room) 1 6 [.ref (ga X 0), .int x1] σ K KX := by
  refine entX (QQ := fun A => va_Qi K (BW X A) A) (by decide) (Nat.le_of_ble_eq_true rfl) ?_
  intro p e s m args below meth c A ls hx hb hr hlocks hml hown ht hK hZ hA hS hl hY hout
  have hown : s.vm.findClass "GuardRoster" = some m.cls := hown
  have hl : lv_has ls 2 [(0, .ref (ga X 0)), (1, .int x1)] := hl
  unfold wp_X4_openGates at h
  refine lv_aload_n hx hb ddX4_openGates_0 rfl (lv_at hl 0 rfl) ?_
  refine lv_iload_n hx hb ddX4_openGates_1 rfl (lv_at hl 1 rfl) ?_
  refine kx_VV (As := [.int x1]) (rest := []) (c_X4_throwUnlessSlot l X hfl h) mf_X4_throwUnlessSlot lk235 hx hb hml hown ht hK hZ hS hA hY 0 0 rfl rfl rfl ⟨rfl, rfl⟩ ⟨Nat.le_of_ble_eq_true rfl, Nat.le_of_ble_eq_true rfl⟩ rfl hl.1 rfl (Nat.le_of_ble_eq_true rfl) ⟨Nat.le_of_ble_eq_true rfl, Nat.le_of_ble_eq_true rfl⟩ ddX4_openGates_2 hout hlocks ⟨Nat.le_of_ble_eq_true rfl, Nat.le_of_ble_eq_true rfl⟩ (fun σ1 H locs hS h => ?_)
  refine lv_aload_n hx hb ddX4_openGates_5 rfl (lv_at hl 0 rfl) ?_
  refine get_0_0 hx hb hown ht hK hS lk109 ddX4_openGates_6 ?_
  refine lv_iload_n hx hb ddX4_openGates_9 rfl (lv_at hl 1 rfl) ?_
  refine k_VI (As := [.int x1]) (rest := []) (c_X2_openGatesIn l X h) mf_X2_openGatesIn lk207 hx hb hml hown ht hK hZ hS hA 1 1 rfl rfl rfl ⟨rfl, rfl⟩ ⟨Nat.le_of_ble_eq_true rfl, Nat.le_of_ble_eq_true rfl⟩ rfl hl.1 rfl (Nat.le_of_ble_eq_true rfl) ⟨Nat.le_of_ble_eq_true rfl, Nat.le_of_ble_eq_true rfl⟩ ddX4_openGates_10 (fun r3 σ2 H locs hS h => ?_)
  exact kx_iret hx hb hr hlocks hK hS h ddX4_openGates_13 ⟨Nat.le_of_ble_eq_true rfl, Nat.le_of_ble_eq_true rfl⟩

set_option maxHeartbeats 4000000 in
set_option maxRecDepth 100000 in
theorem c_X4_mostDuties (l : Launch) (X : GX) (hfl : l.stackTraces = false) {x1 : Int32} {σ : Mem} {K : Int32 → Mem → Prop} {KX : String → Mem → Prop} (h : wp_X4_mostDuties x1 σ K KX) : XI l X yX4_mostDuties cX4_mostDuties 2 ((Option.some Jvm.ClassFile.FieldType.int)) ({ frames := 8, cells := 1, slots := 6, locals := 197 } : Room) 1 6 [.ref (ga X 0), .int x1] σ K KX := by
  refine entX (QQ := fun A => va_Qi K (BW X A) A) (by decide) (Nat.le_of_ble_eq_true rfl) ?_
  intro p e s m args below meth c A ls hx hb hr hlocks hml hown ht hK hZ hA hS hl hY hout
  have hown : s.vm.findClass "GuardRoster" = some m.cls := hown
  have hl : lv_has ls 2 [(0, .ref (ga X 0)), (1, .int x1)] := hl
  unfold wp_X4_mostDuties at h
  refine lv_aload_n hx hb ddX4_mostDuties_0 rfl (lv_at hl 0 rfl) ?_
  refine lv_iload_n hx hb ddX4_mostDuties_1 rfl (lv_at hl 1 rfl) ?_
  refine kx_VV (As := [.int x1]) (rest := []) (c_X4_throwUnlessSlot l X hfl h) mf_X4_throwUnlessSlot lk235 hx hb hml hown ht hK hZ hS hA hY 0 0 rfl rfl rfl ⟨rfl, rfl⟩ ⟨Nat.le_of_ble_eq_true rfl, Nat.le_of_ble_eq_true rfl⟩ rfl hl.1 rfl (Nat.le_of_ble_eq_true rfl) ⟨Nat.le_of_ble_eq_true rfl, Nat.le_of_ble_eq_true rfl⟩ ddX4_mostDuties_2 hout hlocks ⟨Nat.le_of_ble_eq_true rfl, Nat.le_of_ble_eq_true rfl⟩ (fun σ1 H locs hS h => ?_)
  refine lv_aload_n hx hb ddX4_mostDuties_5 rfl (lv_at hl 0 rfl) ?_
  refine get_0_2 hx hb hown ht hK hS lk111 ddX4_mostDuties_6 ?_
  refine lv_aload_n hx hb ddX4_mostDuties_9 rfl (lv_at hl 0 rfl) ?_
  refine get_0_0 hx hb hown ht hK hS lk109 ddX4_mostDuties_10 ?_
  refine lv_iload_n hx hb ddX4_mostDuties_13 rfl (lv_at hl 1 rfl) ?_
  refine k_VV (As := [.ref (ga X 1), .int x1]) (rest := []) (c_X3_prepare l X h) mf_X3_prepare lk312 hx hb hml hown ht hK hZ hS hA 15 3 rfl rfl rfl ⟨rfl, rfl⟩ ⟨Nat.le_of_ble_eq_true rfl, Nat.le_of_ble_eq_true rfl⟩ rfl hl.1 rfl (Nat.le_of_ble_eq_true rfl) ⟨Nat.le_of_ble_eq_true rfl, Nat.le_of_ble_eq_true rfl⟩ ddX4_mostDuties_14 (fun σ2 H locs hS h => ?_)
  refine lv_aload_n hx hb ddX4_mostDuties_17 rfl (lv_at hl 0 rfl) ?_
  refine get_0_2 hx hb hown ht hK hS lk111 ddX4_mostDuties_18 ?_
  refine k_VI (As := []) (rest := []) (c_X3_countByPaths l X h) mf_X3_countByPaths lk345 hx hb hml hown ht hK hZ hS hA 15 3 rfl rfl rfl ⟨rfl, rfl⟩ ⟨Nat.le_of_ble_eq_true rfl, Nat.le_of_ble_eq_true rfl⟩ rfl hl.1 rfl (Nat.le_of_ble_eq_true rfl) ⟨Nat.le_of_ble_eq_true rfl, Nat.le_of_ble_eq_true rfl⟩ ddX4_mostDuties_21 (fun r4 σ3 H locs hS h => ?_)
  exact kx_iret hx hb hr hlocks hK hS h ddX4_mostDuties_24 ⟨Nat.le_of_ble_eq_true rfl, Nat.le_of_ble_eq_true rfl⟩

set_option maxHeartbeats 4000000 in
set_option maxRecDepth 100000 in
theorem c_X4_mostDutiesBySets (l : Launch) (X : GX) (hfl : l.stackTraces = false) {x1 : Int32} {σ : Mem} {K : Int32 → Mem → Prop} {KX : String → Mem → Prop} (h : wp_X4_mostDutiesBySets x1 σ K KX) : XI l X yX4_mostDutiesBySets cX4_mostDutiesBySets 2 ((Option.some Jvm.ClassFile.FieldType.int)) ({ frames := 7, cells := 1, slots := 6, locals := 113 } : Room) 1 6 [.ref (ga X 0), .int x1] σ K KX := by
  refine entX (QQ := fun A => va_Qi K (BW X A) A) (by decide) (Nat.le_of_ble_eq_true rfl) ?_
  intro p e s m args below meth c A ls hx hb hr hlocks hml hown ht hK hZ hA hS hl hY hout
  have hown : s.vm.findClass "GuardRoster" = some m.cls := hown
  have hl : lv_has ls 2 [(0, .ref (ga X 0)), (1, .int x1)] := hl
  unfold wp_X4_mostDutiesBySets at h
  refine lv_aload_n hx hb ddX4_mostDutiesBySets_0 rfl (lv_at hl 0 rfl) ?_
  refine lv_iload_n hx hb ddX4_mostDutiesBySets_1 rfl (lv_at hl 1 rfl) ?_
  refine kx_VV (As := [.int x1]) (rest := []) (c_X4_throwUnlessSlot l X hfl h) mf_X4_throwUnlessSlot lk235 hx hb hml hown ht hK hZ hS hA hY 0 0 rfl rfl rfl ⟨rfl, rfl⟩ ⟨Nat.le_of_ble_eq_true rfl, Nat.le_of_ble_eq_true rfl⟩ rfl hl.1 rfl (Nat.le_of_ble_eq_true rfl) ⟨Nat.le_of_ble_eq_true rfl, Nat.le_of_ble_eq_true rfl⟩ ddX4_mostDutiesBySets_2 hout hlocks ⟨Nat.le_of_ble_eq_true rfl, Nat.le_of_ble_eq_true rfl⟩ (fun σ1 H locs hS h => ?_)
  refine lv_aload_n hx hb ddX4_mostDutiesBySets_5 rfl (lv_at hl 0 rfl) ?_
  refine get_0_2 hx hb hown ht hK hS lk111 ddX4_mostDutiesBySets_6 ?_
  refine lv_aload_n hx hb ddX4_mostDutiesBySets_9 rfl (lv_at hl 0 rfl) ?_
  refine get_0_0 hx hb hown ht hK hS lk109 ddX4_mostDutiesBySets_10 ?_
  refine lv_iload_n hx hb ddX4_mostDutiesBySets_13 rfl (lv_at hl 1 rfl) ?_
  refine k_VV (As := [.ref (ga X 1), .int x1]) (rest := []) (c_X3_prepare l X h) mf_X3_prepare lk312 hx hb hml hown ht hK hZ hS hA 15 3 rfl rfl rfl ⟨rfl, rfl⟩ ⟨Nat.le_of_ble_eq_true rfl, Nat.le_of_ble_eq_true rfl⟩ rfl hl.1 rfl (Nat.le_of_ble_eq_true rfl) ⟨Nat.le_of_ble_eq_true rfl, Nat.le_of_ble_eq_true rfl⟩ ddX4_mostDutiesBySets_14 (fun σ2 H locs hS h => ?_)
  refine lv_aload_n hx hb ddX4_mostDutiesBySets_17 rfl (lv_at hl 0 rfl) ?_
  refine get_0_2 hx hb hown ht hK hS lk111 ddX4_mostDutiesBySets_18 ?_
  refine k_VI (As := []) (rest := []) (c_X3_countBySets l X h) mf_X3_countBySets lk356 hx hb hml hown ht hK hZ hS hA 15 3 rfl rfl rfl ⟨rfl, rfl⟩ ⟨Nat.le_of_ble_eq_true rfl, Nat.le_of_ble_eq_true rfl⟩ rfl hl.1 rfl (Nat.le_of_ble_eq_true rfl) ⟨Nat.le_of_ble_eq_true rfl, Nat.le_of_ble_eq_true rfl⟩ ddX4_mostDutiesBySets_21 (fun r4 σ3 H locs hS h => ?_)
  exact kx_iret hx hb hr hlocks hK hS h ddX4_mostDutiesBySets_24 ⟨Nat.le_of_ble_eq_true rfl, Nat.le_of_ble_eq_true rfl⟩

set_option maxHeartbeats 4000000 in
set_option maxRecDepth 100000 in
theorem c_X4_nextDuty (l : Launch) (X : GX) (hfl : l.stackTraces = false) {x1 : Int32} {σ : Mem} {K : Int32 → Mem → Prop} {KX : String → Mem → Prop} (h : wp_X4_nextDuty x1 σ K KX) : XI l X yX4_nextDuty cX4_nextDuty 3 ((Option.some Jvm.ClassFile.FieldType.int)) ({ frames := 7, cells := 2, slots := 12, locals := 111 } : Room) 2 12 [.ref (ga X 0), .int x1] σ K KX := by
  refine entX (QQ := fun A => va_Qi K (BW X A) A) (by decide) (Nat.le_of_ble_eq_true rfl) ?_
  intro p e s m args below meth c A ls hx hb hr hlocks hml hown ht hK hZ hA hS hl hY hout
  have hown : s.vm.findClass "GuardRoster" = some m.cls := hown
  have hl : lv_has ls 3 [(0, .ref (ga X 0)), (1, .int x1)] := hl
  unfold wp_X4_nextDuty at h
  refine lv_aload_n hx hb ddX4_nextDuty_0 rfl (lv_at hl 0 rfl) ?_
  refine lv_iload_n hx hb ddX4_nextDuty_1 rfl (lv_at hl 1 rfl) ?_
  refine kx_VV (As := [.int x1]) (rest := []) (c_X4_throwUnlessGuard l X hfl h) mf_X4_throwUnlessGuard lk552 hx hb hml hown ht hK hZ hS hA hY 0 0 rfl rfl rfl ⟨rfl, rfl⟩ ⟨Nat.le_of_ble_eq_true rfl, Nat.le_of_ble_eq_true rfl⟩ rfl hl.1 rfl (Nat.le_of_ble_eq_true rfl) ⟨Nat.le_of_ble_eq_true rfl, Nat.le_of_ble_eq_true rfl⟩ ddX4_nextDuty_2 hout hlocks ⟨Nat.le_of_ble_eq_true rfl, Nat.le_of_ble_eq_true rfl⟩ (fun σ1 H locs hS h => ?_)
  refine lv_aload_n hx hb ddX4_nextDuty_5 rfl (lv_at hl 0 rfl) ?_
  refine get_0_0 hx hb hown ht hK hS lk109 ddX4_nextDuty_6 ?_
  refine lv_iload_n hx hb ddX4_nextDuty_9 rfl (lv_at hl 1 rfl) ?_
  refine k_VI (As := [.int x1]) (rest := []) (c_X2_nextSlotOf l X h) mf_X2_nextSlotOf lk723 hx hb hml hown ht hK hZ hS hA 1 1 rfl rfl rfl ⟨rfl, rfl⟩ ⟨Nat.le_of_ble_eq_true rfl, Nat.le_of_ble_eq_true rfl⟩ rfl hl.1 rfl (Nat.le_of_ble_eq_true rfl) ⟨Nat.le_of_ble_eq_true rfl, Nat.le_of_ble_eq_true rfl⟩ ddX4_nextDuty_10 (fun r3 σ2 H locs hS h => ?_)
  refine lv_istore_n (lv' := [(2, .int r3), (0, .ref (ga X 0)), (1, .int x1)]) hx hb ddX4_nextDuty_13 rfl hl (by decide) rfl (fun ls hl => ?_)
  refine lv_iload_n hx hb ddX4_nextDuty_14 rfl (lv_at hl 0 rfl) ?_
  refine lv_iconst (v := (-1 : Int32)) hx hb ddX4_nextDuty_15 (by decide) ?_
  refine lv_icmp_ne (tgt := 29) hx hb ddX4_nextDuty_16 (by decide) (fun c4 => ?_) (fun c4 => ?_)
  · replace h := h.1 c4
    refine lv_iload_n hx hb ddX4_nextDuty_29 rfl (lv_at hl 0 rfl) ?_
    exact kx_iret hx hb hr hlocks hK hS h ddX4_nextDuty_30 ⟨Nat.le_of_ble_eq_true rfl, Nat.le_of_ble_eq_true rfl⟩
  · replace h := h.2 c4
    exact k_thrSN 27 rfl hx hb hfl hown ht hY hK hZ hS h hout hlocks (hl.1.trans hml.symm) ddX4_nextDuty_19 ddX4_nextDuty_22 ddX4_nextDuty_23 ddX4_nextDuty_25 ddX4_nextDuty_28 ⟨Nat.le_of_ble_eq_true rfl, Nat.le_of_ble_eq_true rfl, Nat.le_of_ble_eq_true rfl, Nat.le_of_ble_eq_true rfl⟩ ⟨Nat.le_of_ble_eq_true rfl, Nat.le_of_ble_eq_true rfl⟩

set_option maxHeartbeats 4000000 in
set_option maxRecDepth 100000 in
theorem c_X4_longestRest (l : Launch) (X : GX) (hfl : l.stackTraces = false) {x1 : Int32} {σ : Mem} {K : Int32 → Mem → Prop} {KX : String → Mem → Prop} (h : wp_X4_longestRest x1 σ K KX) : XI l X yX4_longestRest cX4_longestRest 2 ((Option.some Jvm.ClassFile.FieldType.int)) ({ frames := 7, cells := 1, slots := 6, locals := 111 } : Room) 1 6 [.ref (ga X 0), .int x1] σ K KX := by
  refine entX (QQ := fun A => va_Qi K (BW X A) A) (by decide) (Nat.le_of_ble_eq_true rfl) ?_
  intro p e s m args below meth c A ls hx hb hr hlocks hml hown ht hK hZ hA hS hl hY hout
  have hown : s.vm.findClass "GuardRoster" = some m.cls := hown
  have hl : lv_has ls 2 [(0, .ref (ga X 0)), (1, .int x1)] := hl
  unfold wp_X4_longestRest at h
  refine lv_aload_n hx hb ddX4_longestRest_0 rfl (lv_at hl 0 rfl) ?_
  refine lv_iload_n hx hb ddX4_longestRest_1 rfl (lv_at hl 1 rfl) ?_
  refine kx_VV (As := [.int x1]) (rest := []) (c_X4_throwUnlessGuard l X hfl h) mf_X4_throwUnlessGuard lk552 hx hb hml hown ht hK hZ hS hA hY 0 0 rfl rfl rfl ⟨rfl, rfl⟩ ⟨Nat.le_of_ble_eq_true rfl, Nat.le_of_ble_eq_true rfl⟩ rfl hl.1 rfl (Nat.le_of_ble_eq_true rfl) ⟨Nat.le_of_ble_eq_true rfl, Nat.le_of_ble_eq_true rfl⟩ ddX4_longestRest_2 hout hlocks ⟨Nat.le_of_ble_eq_true rfl, Nat.le_of_ble_eq_true rfl⟩ (fun σ1 H locs hS h => ?_)
  refine lv_aload_n hx hb ddX4_longestRest_5 rfl (lv_at hl 0 rfl) ?_
  refine get_0_0 hx hb hown ht hK hS lk109 ddX4_longestRest_6 ?_
  refine lv_iload_n hx hb ddX4_longestRest_9 rfl (lv_at hl 1 rfl) ?_
  refine k_VI (As := [.int x1]) (rest := []) (c_X2_longestGap l X h) mf_X2_longestGap lk735 hx hb hml hown ht hK hZ hS hA 1 1 rfl rfl rfl ⟨rfl, rfl⟩ ⟨Nat.le_of_ble_eq_true rfl, Nat.le_of_ble_eq_true rfl⟩ rfl hl.1 rfl (Nat.le_of_ble_eq_true rfl) ⟨Nat.le_of_ble_eq_true rfl, Nat.le_of_ble_eq_true rfl⟩ ddX4_longestRest_10 (fun r3 σ2 H locs hS h => ?_)
  exact kx_iret hx hb hr hlocks hK hS h ddX4_longestRest_13 ⟨Nat.le_of_ble_eq_true rfl, Nat.le_of_ble_eq_true rfl⟩

set_option maxHeartbeats 4000000 in
set_option maxRecDepth 100000 in
theorem c_X4_guardByDuties (l : Launch) (X : GX) (hfl : l.stackTraces = false) {x1 : Int32} {σ : Mem} {K : Int32 → Mem → Prop} {KX : String → Mem → Prop} (h : wp_X4_guardByDuties x1 σ K KX) : XI l X yX4_guardByDuties cX4_guardByDuties 2 ((Option.some Jvm.ClassFile.FieldType.int)) ({ frames := 6, cells := 1, slots := 6, locals := 90 } : Room) 1 6 [.ref (ga X 0), .int x1] σ K KX := by
  refine entX (QQ := fun A => va_Qi K (BW X A) A) (by decide) (Nat.le_of_ble_eq_true rfl) ?_
  intro p e s m args below meth c A ls hx hb hr hlocks hml hown ht hK hZ hA hS hl hY hout
  have hown : s.vm.findClass "GuardRoster" = some m.cls := hown
  have hl : lv_has ls 2 [(0, .ref (ga X 0)), (1, .int x1)] := hl
  unfold wp_X4_guardByDuties at h
  refine lv_aload_n hx hb ddX4_guardByDuties_0 rfl (lv_at hl 0 rfl) ?_
  refine get_0_0 hx hb hown ht hK hS lk109 ddX4_guardByDuties_1 ?_
  refine lv_iload_n hx hb ddX4_guardByDuties_4 rfl (lv_at hl 1 rfl) ?_
  refine k_VI (As := [.int x1]) (rest := []) (c_X2_isGuard l X h) mf_X2_isGuard lk556 hx hb hml hown ht hK hZ hS hA 1 1 rfl rfl rfl ⟨rfl, rfl⟩ ⟨Nat.le_of_ble_eq_true rfl, Nat.le_of_ble_eq_true rfl⟩ rfl hl.1 rfl (Nat.le_of_ble_eq_true rfl) ⟨Nat.le_of_ble_eq_true rfl, Nat.le_of_ble_eq_true rfl⟩ ddX4_guardByDuties_5 (fun r2 σ1 H locs hS h => ?_)
  refine lv_if_ne (tgt := 21) hx hb ddX4_guardByDuties_8 (by decide) (fun c3 => ?_) (fun c3 => ?_)
  · replace h := h.1 c3
    refine lv_aload_n hx hb ddX4_guardByDuties_21 rfl (lv_at hl 0 rfl) ?_
    refine get_0_0 hx hb hown ht hK hS lk109 ddX4_guardByDuties_22 ?_
    refine lv_iload_n hx hb ddX4_guardByDuties_25 rfl (lv_at hl 1 rfl) ?_
    refine k_VI (As := [.int x1]) (rest := []) (c_X2_guardInOrder l X h) mf_X2_guardInOrder lk747 hx hb hml hown ht hK hZ hS hA 1 1 rfl rfl rfl ⟨rfl, rfl⟩ ⟨Nat.le_of_ble_eq_true rfl, Nat.le_of_ble_eq_true rfl⟩ rfl hl.1 rfl (Nat.le_of_ble_eq_true rfl) ⟨Nat.le_of_ble_eq_true rfl, Nat.le_of_ble_eq_true rfl⟩ ddX4_guardByDuties_26 (fun r5 σ4 H locs hS h => ?_)
    exact kx_iret hx hb hr hlocks hK hS h ddX4_guardByDuties_29 ⟨Nat.le_of_ble_eq_true rfl, Nat.le_of_ble_eq_true rfl⟩
  · replace h := h.2 c3
    exact k_thrSN 28 rfl hx hb hfl hown ht hY hK hZ hS h hout hlocks (hl.1.trans hml.symm) ddX4_guardByDuties_11 ddX4_guardByDuties_14 ddX4_guardByDuties_15 ddX4_guardByDuties_17 ddX4_guardByDuties_20 ⟨Nat.le_of_ble_eq_true rfl, Nat.le_of_ble_eq_true rfl, Nat.le_of_ble_eq_true rfl, Nat.le_of_ble_eq_true rfl⟩ ⟨Nat.le_of_ble_eq_true rfl, Nat.le_of_ble_eq_true rfl⟩

set_option maxHeartbeats 4000000 in
set_option maxRecDepth 100000 in
theorem c_X4_grantLeave (l : Launch) (X : GX) (hfl : l.stackTraces = false) {x1 x2 x3 : Int32} {σ : Mem} {K : Int32 → Mem → Prop} {KX : String → Mem → Prop} (h : wp_X4_grantLeave x1 x2 x3 σ K KX) : XI l X yX4_grantLeave cX4_grantLeave 4 ((Option.some Jvm.ClassFile.FieldType.int)) ({ frames := 7, cells := 1, slots := 6, locals := 143 } : Room) 1 6 [.ref (ga X 0), .int x1, .int x2, .int x3] σ K KX := by
  refine entX (QQ := fun A => va_Qi K (BW X A) A) (by decide) (Nat.le_of_ble_eq_true rfl) ?_
  intro p e s m args below meth c A ls hx hb hr hlocks hml hown ht hK hZ hA hS hl hY hout
  have hown : s.vm.findClass "GuardRoster" = some m.cls := hown
  have hl : lv_has ls 4 [(0, .ref (ga X 0)), (1, .int x1), (2, .int x2), (3, .int x3)] := hl
  unfold wp_X4_grantLeave at h
  refine lv_aload_n hx hb ddX4_grantLeave_0 rfl (lv_at hl 0 rfl) ?_
  refine lv_iload_n hx hb ddX4_grantLeave_1 rfl (lv_at hl 1 rfl) ?_
  refine lv_iload_n hx hb ddX4_grantLeave_2 rfl (lv_at hl 2 rfl) ?_
  refine lv_iload_n hx hb ddX4_grantLeave_3 rfl (lv_at hl 3 rfl) ?_
  refine k_VI (As := [.int x1, .int x2, .int x3]) (rest := []) (c_X4_problemOfLeave l X h) mf_X4_problemOfLeave lk762 hx hb hml hown ht hK hZ hS hA 0 0 rfl rfl rfl ⟨rfl, rfl⟩ ⟨Nat.le_of_ble_eq_true rfl, Nat.le_of_ble_eq_true rfl⟩ rfl hl.1 rfl (Nat.le_of_ble_eq_true rfl) ⟨Nat.le_of_ble_eq_true rfl, Nat.le_of_ble_eq_true rfl⟩ ddX4_grantLeave_4 (fun r2 σ1 H locs hS h => ?_)
  refine kx_SV (As := [.int r2]) (rest := []) (c_X4_throwFor l X hfl h) mf_X4_throwFor lk411 hx hb hml hown ht hK hZ hS hA hY ⟨rfl, rfl⟩ ⟨Nat.le_of_ble_eq_true rfl, Nat.le_of_ble_eq_true rfl⟩ rfl hl.1 rfl (Nat.le_of_ble_eq_true rfl) ⟨Nat.le_of_ble_eq_true rfl, Nat.le_of_ble_eq_true rfl⟩ ddX4_grantLeave_7 hout hlocks ⟨Nat.le_of_ble_eq_true rfl, Nat.le_of_ble_eq_true rfl⟩ (fun σ3 H locs hS h => ?_)
  refine lv_aload_n hx hb ddX4_grantLeave_10 rfl (lv_at hl 0 rfl) ?_
  refine get_0_1 hx hb hown ht hK hS lk110 ddX4_grantLeave_11 ?_
  refine lv_aload_n hx hb ddX4_grantLeave_14 rfl (lv_at hl 0 rfl) ?_
  refine get_0_0 hx hb hown ht hK hS lk109 ddX4_grantLeave_15 ?_
  refine k_VV (As := [.ref (ga X 1)]) (rest := []) (c_X1_keep l X h) mf_X1_keep lk479 hx hb hml hown ht hK hZ hS hA 4 2 rfl rfl rfl ⟨rfl, rfl⟩ ⟨Nat.le_of_ble_eq_true rfl, Nat.le_of_ble_eq_true rfl⟩ rfl hl.1 rfl (Nat.le_of_ble_eq_true rfl) ⟨Nat.le_of_ble_eq_true rfl, Nat.le_of_ble_eq_true rfl⟩ ddX4_grantLeave_18 (fun σ4 H locs hS h => ?_)
  refine lv_aload_n hx hb ddX4_grantLeave_21 rfl (lv_at hl 0 rfl) ?_
  refine get_0_0 hx hb hown ht hK hS lk109 ddX4_grantLeave_22 ?_
  refine lv_iload_n hx hb ddX4_grantLeave_25 rfl (lv_at hl 1 rfl) ?_
  refine lv_iload_n hx hb ddX4_grantLeave_26 rfl (lv_at hl 2 rfl) ?_
  refine lv_iload_n hx hb ddX4_grantLeave_27 rfl (lv_at hl 3 rfl) ?_
  refine k_VI (As := [.int x1, .int x2, .int x3]) (rest := []) (c_X2_addLeave l X h) mf_X2_addLeave lk770 hx hb hml hown ht hK hZ hS hA 1 1 rfl rfl rfl ⟨rfl, rfl⟩ ⟨Nat.le_of_ble_eq_true rfl, Nat.le_of_ble_eq_true rfl⟩ rfl hl.1 rfl (Nat.le_of_ble_eq_true rfl) ⟨Nat.le_of_ble_eq_true rfl, Nat.le_of_ble_eq_true rfl⟩ ddX4_grantLeave_28 (fun r6 σ5 H locs hS h => ?_)
  exact kx_iret hx hb hr hlocks hK hS h ddX4_grantLeave_31 ⟨Nat.le_of_ble_eq_true rfl, Nat.le_of_ble_eq_true rfl⟩

set_option maxHeartbeats 4000000 in
set_option maxRecDepth 100000 in
theorem c_X4_endLeave (l : Launch) (X : GX) (hfl : l.stackTraces = false) {x1 x2 : Int32} {σ : Mem} {K : Int32 → Mem → Prop} {KX : String → Mem → Prop} (h : wp_X4_endLeave x1 x2 σ K KX) : XI l X yX4_endLeave cX4_endLeave 3 ((Option.some Jvm.ClassFile.FieldType.int)) ({ frames := 8, cells := 3, slots := 18, locals := 143 } : Room) 3 18 [.ref (ga X 0), .int x1, .int x2] σ K KX := by
  refine entX (QQ := fun A => va_Qi K (BW X A) A) (by decide) (Nat.le_of_ble_eq_true rfl) ?_
  intro p e s m args below meth c A ls hx hb hr hlocks hml hown ht hK hZ hA hS hl hY hout
  have hown : s.vm.findClass "GuardRoster" = some m.cls := hown
  have hl : lv_has ls 3 [(0, .ref (ga X 0)), (1, .int x1), (2, .int x2)] := hl
  unfold wp_X4_endLeave at h
  refine lv_aload_n hx hb ddX4_endLeave_0 rfl (lv_at hl 0 rfl) ?_
  refine lv_iload_n hx hb ddX4_endLeave_1 rfl (lv_at hl 1 rfl) ?_
  refine lv_iload_n hx hb ddX4_endLeave_2 rfl (lv_at hl 2 rfl) ?_
  refine kx_VV (As := [.int x1, .int x2]) (rest := []) (c_X4_throwUnlessGuardAndSlot l X hfl h) mf_X4_throwUnlessGuardAndSlot lk688 hx hb hml hown ht hK hZ hS hA hY 0 0 rfl rfl rfl ⟨rfl, rfl⟩ ⟨Nat.le_of_ble_eq_true rfl, Nat.le_of_ble_eq_true rfl⟩ rfl hl.1 rfl (Nat.le_of_ble_eq_true rfl) ⟨Nat.le_of_ble_eq_true rfl, Nat.le_of_ble_eq_true rfl⟩ ddX4_endLeave_3 hout hlocks ⟨Nat.le_of_ble_eq_true rfl, Nat.le_of_ble_eq_true rfl⟩ (fun σ1 H locs hS h => ?_)
  refine lv_aload_n hx hb ddX4_endLeave_6 rfl (lv_at hl 0 rfl) ?_
  refine get_0_0 hx hb hown ht hK hS lk109 ddX4_endLeave_7 ?_
  refine lv_iload_n hx hb ddX4_endLeave_10 rfl (lv_at hl 1 rfl) ?_
  refine lv_iload_n hx hb ddX4_endLeave_11 rfl (lv_at hl 2 rfl) ?_
  refine k_VI (As := [.int x1, .int x2]) (rest := []) (c_X2_hasLeave l X h) mf_X2_hasLeave lk786 hx hb hml hown ht hK hZ hS hA 1 1 rfl rfl rfl ⟨rfl, rfl⟩ ⟨Nat.le_of_ble_eq_true rfl, Nat.le_of_ble_eq_true rfl⟩ rfl hl.1 rfl (Nat.le_of_ble_eq_true rfl) ⟨Nat.le_of_ble_eq_true rfl, Nat.le_of_ble_eq_true rfl⟩ ddX4_endLeave_12 (fun r3 σ2 H locs hS h => ?_)
  refine lv_if_ne (tgt := 28) hx hb ddX4_endLeave_15 (by decide) (fun c4 => ?_) (fun c4 => ?_)
  · replace h := h.1 c4
    refine lv_aload_n hx hb ddX4_endLeave_28 rfl (lv_at hl 0 rfl) ?_
    refine get_0_1 hx hb hown ht hK hS lk110 ddX4_endLeave_29 ?_
    refine lv_aload_n hx hb ddX4_endLeave_32 rfl (lv_at hl 0 rfl) ?_
    refine get_0_0 hx hb hown ht hK hS lk109 ddX4_endLeave_33 ?_
    refine k_VV (As := [.ref (ga X 1)]) (rest := []) (c_X1_keep l X h) mf_X1_keep lk479 hx hb hml hown ht hK hZ hS hA 4 2 rfl rfl rfl ⟨rfl, rfl⟩ ⟨Nat.le_of_ble_eq_true rfl, Nat.le_of_ble_eq_true rfl⟩ rfl hl.1 rfl (Nat.le_of_ble_eq_true rfl) ⟨Nat.le_of_ble_eq_true rfl, Nat.le_of_ble_eq_true rfl⟩ ddX4_endLeave_36 (fun σ5 H locs hS h => ?_)
    refine lv_aload_n hx hb ddX4_endLeave_39 rfl (lv_at hl 0 rfl) ?_
    refine get_0_0 hx hb hown ht hK hS lk109 ddX4_endLeave_40 ?_
    refine lv_iload_n hx hb ddX4_endLeave_43 rfl (lv_at hl 1 rfl) ?_
    refine lv_iload_n hx hb ddX4_endLeave_44 rfl (lv_at hl 2 rfl) ?_
    refine k_VV (As := [.int x1, .int x2]) (rest := []) (c_X2_dropLeave l X h) mf_X2_dropLeave lk788 hx hb hml hown ht hK hZ hS hA 1 1 rfl rfl rfl ⟨rfl, rfl⟩ ⟨Nat.le_of_ble_eq_true rfl, Nat.le_of_ble_eq_true rfl⟩ rfl hl.1 rfl (Nat.le_of_ble_eq_true rfl) ⟨Nat.le_of_ble_eq_true rfl, Nat.le_of_ble_eq_true rfl⟩ ddX4_endLeave_45 (fun σ6 H locs hS h => ?_)
    refine lv_aload_n hx hb ddX4_endLeave_48 rfl (lv_at hl 0 rfl) ?_
    refine get_0_0 hx hb hown ht hK hS lk109 ddX4_endLeave_49 ?_
    refine lv_iload_n hx hb ddX4_endLeave_52 rfl (lv_at hl 1 rfl) ?_
    refine k_VI (As := [.int x1]) (rest := []) (c_X2_leaveTotal l X h) mf_X2_leaveTotal lk792 hx hb hml hown ht hK hZ hS hA 1 1 rfl rfl rfl ⟨rfl, rfl⟩ ⟨Nat.le_of_ble_eq_true rfl, Nat.le_of_ble_eq_true rfl⟩ rfl hl.1 rfl (Nat.le_of_ble_eq_true rfl) ⟨Nat.le_of_ble_eq_true rfl, Nat.le_of_ble_eq_true rfl⟩ ddX4_endLeave_53 (fun r8 σ7 H locs hS h => ?_)
    exact kx_iret hx hb hr hlocks hK hS h ddX4_endLeave_56 ⟨Nat.le_of_ble_eq_true rfl, Nat.le_of_ble_eq_true rfl⟩
  · replace h := h.2 c4
    exact k_thrSN 29 rfl hx hb hfl hown ht hY hK hZ hS h hout hlocks (hl.1.trans hml.symm) ddX4_endLeave_18 ddX4_endLeave_21 ddX4_endLeave_22 ddX4_endLeave_24 ddX4_endLeave_27 ⟨Nat.le_of_ble_eq_true rfl, Nat.le_of_ble_eq_true rfl, Nat.le_of_ble_eq_true rfl, Nat.le_of_ble_eq_true rfl⟩ ⟨Nat.le_of_ble_eq_true rfl, Nat.le_of_ble_eq_true rfl⟩

set_option maxHeartbeats 4000000 in
set_option maxRecDepth 100000 in
theorem c_X4_isOnLeave (l : Launch) (X : GX) (hfl : l.stackTraces = false) {x1 x2 : Int32} {σ : Mem} {K : Int32 → Mem → Prop} {KX : String → Mem → Prop} (h : wp_X4_isOnLeave x1 x2 σ K KX) : XI l X yX4_isOnLeave cX4_isOnLeave 3 ((Option.some Jvm.ClassFile.FieldType.boolean)) ({ frames := 8, cells := 2, slots := 12, locals := 133 } : Room) 2 12 [.ref (ga X 0), .int x1, .int x2] σ K KX := by
  refine entX (QQ := fun A => va_Qi K (BW X A) A) (by decide) (Nat.le_of_ble_eq_true rfl) ?_
  intro p e s m args below meth c A ls hx hb hr hlocks hml hown ht hK hZ hA hS hl hY hout
  have hown : s.vm.findClass "GuardRoster" = some m.cls := hown
  have hl : lv_has ls 3 [(0, .ref (ga X 0)), (1, .int x1), (2, .int x2)] := hl
  unfold wp_X4_isOnLeave at h
  refine lv_aload_n hx hb ddX4_isOnLeave_0 rfl (lv_at hl 0 rfl) ?_
  refine lv_iload_n hx hb ddX4_isOnLeave_1 rfl (lv_at hl 1 rfl) ?_
  refine lv_iload_n hx hb ddX4_isOnLeave_2 rfl (lv_at hl 2 rfl) ?_
  refine kx_VV (As := [.int x1, .int x2]) (rest := []) (c_X4_throwUnlessGuardAndSlot l X hfl h) mf_X4_throwUnlessGuardAndSlot lk688 hx hb hml hown ht hK hZ hS hA hY 0 0 rfl rfl rfl ⟨rfl, rfl⟩ ⟨Nat.le_of_ble_eq_true rfl, Nat.le_of_ble_eq_true rfl⟩ rfl hl.1 rfl (Nat.le_of_ble_eq_true rfl) ⟨Nat.le_of_ble_eq_true rfl, Nat.le_of_ble_eq_true rfl⟩ ddX4_isOnLeave_3 hout hlocks ⟨Nat.le_of_ble_eq_true rfl, Nat.le_of_ble_eq_true rfl⟩ (fun σ1 H locs hS h => ?_)
  refine lv_aload_n hx hb ddX4_isOnLeave_6 rfl (lv_at hl 0 rfl) ?_
  refine get_0_0 hx hb hown ht hK hS lk109 ddX4_isOnLeave_7 ?_
  refine lv_iload_n hx hb ddX4_isOnLeave_10 rfl (lv_at hl 1 rfl) ?_
  refine lv_iload_n hx hb ddX4_isOnLeave_11 rfl (lv_at hl 2 rfl) ?_
  refine k_VI (As := [.int x1, .int x2]) (rest := []) (c_X2_hasLeave l X h) mf_X2_hasLeave lk786 hx hb hml hown ht hK hZ hS hA 1 1 rfl rfl rfl ⟨rfl, rfl⟩ ⟨Nat.le_of_ble_eq_true rfl, Nat.le_of_ble_eq_true rfl⟩ rfl hl.1 rfl (Nat.le_of_ble_eq_true rfl) ⟨Nat.le_of_ble_eq_true rfl, Nat.le_of_ble_eq_true rfl⟩ ddX4_isOnLeave_12 (fun r3 σ2 H locs hS h => ?_)
  exact kx_zret hx hb hr hlocks hK hS h.1 h.2 ddX4_isOnLeave_15 ⟨Nat.le_of_ble_eq_true rfl, Nat.le_of_ble_eq_true rfl⟩

set_option maxHeartbeats 4000000 in
set_option maxRecDepth 100000 in
theorem c_X4_leaveSlots (l : Launch) (X : GX) (hfl : l.stackTraces = false) {x1 : Int32} {σ : Mem} {K : Int32 → Mem → Prop} {KX : String → Mem → Prop} (h : wp_X4_leaveSlots x1 σ K KX) : XI l X yX4_leaveSlots cX4_leaveSlots 2 ((Option.some Jvm.ClassFile.FieldType.int)) ({ frames := 7, cells := 1, slots := 6, locals := 111 } : Room) 1 6 [.ref (ga X 0), .int x1] σ K KX := by
  refine entX (QQ := fun A => va_Qi K (BW X A) A) (by decide) (Nat.le_of_ble_eq_true rfl) ?_
  intro p e s m args below meth c A ls hx hb hr hlocks hml hown ht hK hZ hA hS hl hY hout
  have hown : s.vm.findClass "GuardRoster" = some m.cls := hown
  have hl : lv_has ls 2 [(0, .ref (ga X 0)), (1, .int x1)] := hl
  unfold wp_X4_leaveSlots at h
  refine lv_aload_n hx hb ddX4_leaveSlots_0 rfl (lv_at hl 0 rfl) ?_
  refine lv_iload_n hx hb ddX4_leaveSlots_1 rfl (lv_at hl 1 rfl) ?_
  refine kx_VV (As := [.int x1]) (rest := []) (c_X4_throwUnlessGuard l X hfl h) mf_X4_throwUnlessGuard lk552 hx hb hml hown ht hK hZ hS hA hY 0 0 rfl rfl rfl ⟨rfl, rfl⟩ ⟨Nat.le_of_ble_eq_true rfl, Nat.le_of_ble_eq_true rfl⟩ rfl hl.1 rfl (Nat.le_of_ble_eq_true rfl) ⟨Nat.le_of_ble_eq_true rfl, Nat.le_of_ble_eq_true rfl⟩ ddX4_leaveSlots_2 hout hlocks ⟨Nat.le_of_ble_eq_true rfl, Nat.le_of_ble_eq_true rfl⟩ (fun σ1 H locs hS h => ?_)
  refine lv_aload_n hx hb ddX4_leaveSlots_5 rfl (lv_at hl 0 rfl) ?_
  refine get_0_0 hx hb hown ht hK hS lk109 ddX4_leaveSlots_6 ?_
  refine lv_iload_n hx hb ddX4_leaveSlots_9 rfl (lv_at hl 1 rfl) ?_
  refine k_VI (As := [.int x1]) (rest := []) (c_X2_leaveTotal l X h) mf_X2_leaveTotal lk792 hx hb hml hown ht hK hZ hS hA 1 1 rfl rfl rfl ⟨rfl, rfl⟩ ⟨Nat.le_of_ble_eq_true rfl, Nat.le_of_ble_eq_true rfl⟩ rfl hl.1 rfl (Nat.le_of_ble_eq_true rfl) ⟨Nat.le_of_ble_eq_true rfl, Nat.le_of_ble_eq_true rfl⟩ ddX4_leaveSlots_10 (fun r3 σ2 H locs hS h => ?_)
  exact kx_iret hx hb hr hlocks hK hS h ddX4_leaveSlots_13 ⟨Nat.le_of_ble_eq_true rfl, Nat.le_of_ble_eq_true rfl⟩

set_option maxHeartbeats 4000000 in
set_option maxRecDepth 100000 in
theorem c_X4_addRations (l : Launch) (X : GX) (hfl : l.stackTraces = false) {x1 : Int32} {σ : Mem} {K : Int32 → Mem → Prop} {KX : String → Mem → Prop} (h : wp_X4_addRations x1 σ K KX) : XI l X yX4_addRations cX4_addRations 2 ((Option.some Jvm.ClassFile.FieldType.int)) ({ frames := 7, cells := 1, slots := 6, locals := 143 } : Room) 1 6 [.ref (ga X 0), .int x1] σ K KX := by
  refine entX (QQ := fun A => va_Qi K (BW X A) A) (by decide) (Nat.le_of_ble_eq_true rfl) ?_
  intro p e s m args below meth c A ls hx hb hr hlocks hml hown ht hK hZ hA hS hl hY hout
  have hown : s.vm.findClass "GuardRoster" = some m.cls := hown
  have hl : lv_has ls 2 [(0, .ref (ga X 0)), (1, .int x1)] := hl
  unfold wp_X4_addRations at h
  refine lv_aload_n hx hb ddX4_addRations_0 rfl (lv_at hl 0 rfl) ?_
  refine lv_iload_n hx hb ddX4_addRations_1 rfl (lv_at hl 1 rfl) ?_
  refine k_VI (As := [.int x1]) (rest := []) (c_X4_problemOfFood l X h) mf_X4_problemOfFood lk814 hx hb hml hown ht hK hZ hS hA 0 0 rfl rfl rfl ⟨rfl, rfl⟩ ⟨Nat.le_of_ble_eq_true rfl, Nat.le_of_ble_eq_true rfl⟩ rfl hl.1 rfl (Nat.le_of_ble_eq_true rfl) ⟨Nat.le_of_ble_eq_true rfl, Nat.le_of_ble_eq_true rfl⟩ ddX4_addRations_2 (fun r2 σ1 H locs hS h => ?_)
  refine kx_SV (As := [.int r2]) (rest := []) (c_X4_throwFor l X hfl h) mf_X4_throwFor lk411 hx hb hml hown ht hK hZ hS hA hY ⟨rfl, rfl⟩ ⟨Nat.le_of_ble_eq_true rfl, Nat.le_of_ble_eq_true rfl⟩ rfl hl.1 rfl (Nat.le_of_ble_eq_true rfl) ⟨Nat.le_of_ble_eq_true rfl, Nat.le_of_ble_eq_true rfl⟩ ddX4_addRations_5 hout hlocks ⟨Nat.le_of_ble_eq_true rfl, Nat.le_of_ble_eq_true rfl⟩ (fun σ3 H locs hS h => ?_)
  refine lv_aload_n hx hb ddX4_addRations_8 rfl (lv_at hl 0 rfl) ?_
  refine get_0_1 hx hb hown ht hK hS lk110 ddX4_addRations_9 ?_
  refine lv_aload_n hx hb ddX4_addRations_12 rfl (lv_at hl 0 rfl) ?_
  refine get_0_0 hx hb hown ht hK hS lk109 ddX4_addRations_13 ?_
  refine k_VV (As := [.ref (ga X 1)]) (rest := []) (c_X1_keep l X h) mf_X1_keep lk479 hx hb hml hown ht hK hZ hS hA 4 2 rfl rfl rfl ⟨rfl, rfl⟩ ⟨Nat.le_of_ble_eq_true rfl, Nat.le_of_ble_eq_true rfl⟩ rfl hl.1 rfl (Nat.le_of_ble_eq_true rfl) ⟨Nat.le_of_ble_eq_true rfl, Nat.le_of_ble_eq_true rfl⟩ ddX4_addRations_16 (fun σ4 H locs hS h => ?_)
  refine lv_aload_n hx hb ddX4_addRations_19 rfl (lv_at hl 0 rfl) ?_
  refine get_0_0 hx hb hown ht hK hS lk109 ddX4_addRations_20 ?_
  refine lv_iload_n hx hb ddX4_addRations_23 rfl (lv_at hl 1 rfl) ?_
  refine k_VV (As := [.int x1]) (rest := []) (c_X2_store l X h) mf_X2_store lk818 hx hb hml hown ht hK hZ hS hA 1 1 rfl rfl rfl ⟨rfl, rfl⟩ ⟨Nat.le_of_ble_eq_true rfl, Nat.le_of_ble_eq_true rfl⟩ rfl hl.1 rfl (Nat.le_of_ble_eq_true rfl) ⟨Nat.le_of_ble_eq_true rfl, Nat.le_of_ble_eq_true rfl⟩ ddX4_addRations_24 (fun σ5 H locs hS h => ?_)
  refine lv_aload_n hx hb ddX4_addRations_27 rfl (lv_at hl 0 rfl) ?_
  refine get_0_0 hx hb hown ht hK hS lk109 ddX4_addRations_28 ?_
  refine k_VI (As := []) (rest := []) (c_X2_rationsLeft l X h) mf_X2_rationsLeft lk212 hx hb hml hown ht hK hZ hS hA 1 1 rfl rfl rfl ⟨rfl, rfl⟩ ⟨Nat.le_of_ble_eq_true rfl, Nat.le_of_ble_eq_true rfl⟩ rfl hl.1 rfl (Nat.le_of_ble_eq_true rfl) ⟨Nat.le_of_ble_eq_true rfl, Nat.le_of_ble_eq_true rfl⟩ ddX4_addRations_31 (fun r7 σ6 H locs hS h => ?_)
  exact kx_iret hx hb hr hlocks hK hS h ddX4_addRations_34 ⟨Nat.le_of_ble_eq_true rfl, Nat.le_of_ble_eq_true rfl⟩

set_option maxHeartbeats 4000000 in
set_option maxRecDepth 100000 in
theorem c_X4_passSlots (l : Launch) (X : GX) (hfl : l.stackTraces = false) {x1 : Int32} {σ : Mem} {K : Int32 → Mem → Prop} {KX : String → Mem → Prop} (h : wp_X4_passSlots x1 σ K KX) : XI l X yX4_passSlots cX4_passSlots 2 ((Option.some Jvm.ClassFile.FieldType.int)) ({ frames := 7, cells := 1, slots := 6, locals := 143 } : Room) 1 6 [.ref (ga X 0), .int x1] σ K KX := by
  refine entX (QQ := fun A => va_Qi K (BW X A) A) (by decide) (Nat.le_of_ble_eq_true rfl) ?_
  intro p e s m args below meth c A ls hx hb hr hlocks hml hown ht hK hZ hA hS hl hY hout
  have hown : s.vm.findClass "GuardRoster" = some m.cls := hown
  have hl : lv_has ls 2 [(0, .ref (ga X 0)), (1, .int x1)] := hl
  unfold wp_X4_passSlots at h
  refine lv_aload_n hx hb ddX4_passSlots_0 rfl (lv_at hl 0 rfl) ?_
  refine lv_iload_n hx hb ddX4_passSlots_1 rfl (lv_at hl 1 rfl) ?_
  refine k_VI (As := [.int x1]) (rest := []) (c_X4_problemOfPassing l X h) mf_X4_problemOfPassing lk829 hx hb hml hown ht hK hZ hS hA 0 0 rfl rfl rfl ⟨rfl, rfl⟩ ⟨Nat.le_of_ble_eq_true rfl, Nat.le_of_ble_eq_true rfl⟩ rfl hl.1 rfl (Nat.le_of_ble_eq_true rfl) ⟨Nat.le_of_ble_eq_true rfl, Nat.le_of_ble_eq_true rfl⟩ ddX4_passSlots_2 (fun r2 σ1 H locs hS h => ?_)
  refine kx_SV (As := [.int r2]) (rest := []) (c_X4_throwFor l X hfl h) mf_X4_throwFor lk411 hx hb hml hown ht hK hZ hS hA hY ⟨rfl, rfl⟩ ⟨Nat.le_of_ble_eq_true rfl, Nat.le_of_ble_eq_true rfl⟩ rfl hl.1 rfl (Nat.le_of_ble_eq_true rfl) ⟨Nat.le_of_ble_eq_true rfl, Nat.le_of_ble_eq_true rfl⟩ ddX4_passSlots_5 hout hlocks ⟨Nat.le_of_ble_eq_true rfl, Nat.le_of_ble_eq_true rfl⟩ (fun σ3 H locs hS h => ?_)
  refine lv_aload_n hx hb ddX4_passSlots_8 rfl (lv_at hl 0 rfl) ?_
  refine get_0_1 hx hb hown ht hK hS lk110 ddX4_passSlots_9 ?_
  refine lv_aload_n hx hb ddX4_passSlots_12 rfl (lv_at hl 0 rfl) ?_
  refine get_0_0 hx hb hown ht hK hS lk109 ddX4_passSlots_13 ?_
  refine k_VV (As := [.ref (ga X 1)]) (rest := []) (c_X1_keep l X h) mf_X1_keep lk479 hx hb hml hown ht hK hZ hS hA 4 2 rfl rfl rfl ⟨rfl, rfl⟩ ⟨Nat.le_of_ble_eq_true rfl, Nat.le_of_ble_eq_true rfl⟩ rfl hl.1 rfl (Nat.le_of_ble_eq_true rfl) ⟨Nat.le_of_ble_eq_true rfl, Nat.le_of_ble_eq_true rfl⟩ ddX4_passSlots_16 (fun σ4 H locs hS h => ?_)
  refine lv_aload_n hx hb ddX4_passSlots_19 rfl (lv_at hl 0 rfl) ?_
  refine get_0_0 hx hb hown ht hK hS lk109 ddX4_passSlots_20 ?_
  refine lv_iload_n hx hb ddX4_passSlots_23 rfl (lv_at hl 1 rfl) ?_
  refine k_VI (As := [.int x1]) (rest := []) (c_X2_letPass l X h) mf_X2_letPass lk833 hx hb hml hown ht hK hZ hS hA 1 1 rfl rfl rfl ⟨rfl, rfl⟩ ⟨Nat.le_of_ble_eq_true rfl, Nat.le_of_ble_eq_true rfl⟩ rfl hl.1 rfl (Nat.le_of_ble_eq_true rfl) ⟨Nat.le_of_ble_eq_true rfl, Nat.le_of_ble_eq_true rfl⟩ ddX4_passSlots_24 (fun r6 σ5 H locs hS h => ?_)
  exact kx_iret hx hb hr hlocks hK hS h ddX4_passSlots_27 ⟨Nat.le_of_ble_eq_true rfl, Nat.le_of_ble_eq_true rfl⟩

set_option maxHeartbeats 4000000 in
set_option maxRecDepth 100000 in
theorem c_X4_refusalReason (l : Launch) (X : GX) (hfl : l.stackTraces = false) {σ : Mem} {K : Int32 → Mem → Prop} {KX : String → Mem → Prop} (h : wp_X4_refusalReason σ K KX) : XI l X yX4_refusalReason cX4_refusalReason 1 ((Option.some Jvm.ClassFile.FieldType.int)) ({ frames := 7, cells := 1, slots := 6, locals := 110 } : Room) 1 6 [.ref (ga X 0)] σ K KX := by
  refine entX (QQ := fun A => va_Qi K (BW X A) A) (by decide) (Nat.le_of_ble_eq_true rfl) ?_
  intro p e s m args below meth c A ls hx hb hr hlocks hml hown ht hK hZ hA hS hl hY hout
  have hown : s.vm.findClass "GuardRoster" = some m.cls := hown
  have hl : lv_has ls 1 [(0, .ref (ga X 0))] := hl
  unfold wp_X4_refusalReason at h
  refine lv_aload_n hx hb ddX4_refusalReason_0 rfl (lv_at hl 0 rfl) ?_
  refine kx_VV (As := []) (rest := []) (c_X4_throwUnlessRefused l X hfl h) mf_X4_throwUnlessRefused lk848 hx hb hml hown ht hK hZ hS hA hY 0 0 rfl rfl rfl ⟨rfl, rfl⟩ ⟨Nat.le_of_ble_eq_true rfl, Nat.le_of_ble_eq_true rfl⟩ rfl hl.1 rfl (Nat.le_of_ble_eq_true rfl) ⟨Nat.le_of_ble_eq_true rfl, Nat.le_of_ble_eq_true rfl⟩ ddX4_refusalReason_1 hout hlocks ⟨Nat.le_of_ble_eq_true rfl, Nat.le_of_ble_eq_true rfl⟩ (fun σ1 H locs hS h => ?_)
  refine lv_aload_n hx hb ddX4_refusalReason_4 rfl (lv_at hl 0 rfl) ?_
  refine get_0_8 hx hb hown ht hK hS lk117 ddX4_refusalReason_5 ?_
  exact kx_iret hx hb hr hlocks hK hS h ddX4_refusalReason_8 ⟨Nat.le_of_ble_eq_true rfl, Nat.le_of_ble_eq_true rfl⟩

set_option maxHeartbeats 4000000 in
set_option maxRecDepth 100000 in
theorem c_X4_refusalDetail (l : Launch) (X : GX) (hfl : l.stackTraces = false) {σ : Mem} {K : Int32 → Mem → Prop} {KX : String → Mem → Prop} (h : wp_X4_refusalDetail σ K KX) : XI l X yX4_refusalDetail cX4_refusalDetail 1 ((Option.some Jvm.ClassFile.FieldType.int)) ({ frames := 7, cells := 1, slots := 6, locals := 110 } : Room) 1 6 [.ref (ga X 0)] σ K KX := by
  refine entX (QQ := fun A => va_Qi K (BW X A) A) (by decide) (Nat.le_of_ble_eq_true rfl) ?_
  intro p e s m args below meth c A ls hx hb hr hlocks hml hown ht hK hZ hA hS hl hY hout
  have hown : s.vm.findClass "GuardRoster" = some m.cls := hown
  have hl : lv_has ls 1 [(0, .ref (ga X 0))] := hl
  unfold wp_X4_refusalDetail at h
  refine lv_aload_n hx hb ddX4_refusalDetail_0 rfl (lv_at hl 0 rfl) ?_
  refine kx_VV (As := []) (rest := []) (c_X4_throwUnlessRefused l X hfl h) mf_X4_throwUnlessRefused lk848 hx hb hml hown ht hK hZ hS hA hY 0 0 rfl rfl rfl ⟨rfl, rfl⟩ ⟨Nat.le_of_ble_eq_true rfl, Nat.le_of_ble_eq_true rfl⟩ rfl hl.1 rfl (Nat.le_of_ble_eq_true rfl) ⟨Nat.le_of_ble_eq_true rfl, Nat.le_of_ble_eq_true rfl⟩ ddX4_refusalDetail_1 hout hlocks ⟨Nat.le_of_ble_eq_true rfl, Nat.le_of_ble_eq_true rfl⟩ (fun σ1 H locs hS h => ?_)
  refine lv_aload_n hx hb ddX4_refusalDetail_4 rfl (lv_at hl 0 rfl) ?_
  refine get_0_9 hx hb hown ht hK hS lk118 ddX4_refusalDetail_5 ?_
  exact kx_iret hx hb hr hlocks hK hS h ddX4_refusalDetail_8 ⟨Nat.le_of_ble_eq_true rfl, Nat.le_of_ble_eq_true rfl⟩

set_option maxHeartbeats 4000000 in
set_option maxRecDepth 100000 in
theorem c_X4_meanDuties (l : Launch) (X : GX) (hfl : l.stackTraces = false) {σ : Mem} {K : UInt64 → Mem → Prop} {KX : String → Mem → Prop} (h : wp_X4_meanDuties σ K KX) : XD l X yX4_meanDuties cX4_meanDuties 2 ((Option.some Jvm.ClassFile.FieldType.double)) ({ frames := 6, cells := 1, slots := 6, locals := 90 } : Room) 1 6 [.ref (ga X 0)] σ K KX := by
  refine entX (QQ := fun A => va_Qd K (BW X A) A) (by decide) (Nat.le_of_ble_eq_true rfl) ?_
  intro p e s m args below meth c A ls hx hb hr hlocks hml hown ht hK hZ hA hS hl hY hout
  have hown : s.vm.findClass "GuardRoster" = some m.cls := hown
  have hl : lv_has ls 2 [(0, .ref (ga X 0))] := hl
  unfold wp_X4_meanDuties at h
  refine lv_aload_n hx hb ddX4_meanDuties_0 rfl (lv_at hl 0 rfl) ?_
  refine get_0_0 hx hb hown ht hK hS lk109 ddX4_meanDuties_1 ?_
  refine k_VI (As := []) (rest := []) (c_X2_guards l X h) mf_X2_guards lk158 hx hb hml hown ht hK hZ hS hA 1 1 rfl rfl rfl ⟨rfl, rfl⟩ ⟨Nat.le_of_ble_eq_true rfl, Nat.le_of_ble_eq_true rfl⟩ rfl hl.1 rfl (Nat.le_of_ble_eq_true rfl) ⟨Nat.le_of_ble_eq_true rfl, Nat.le_of_ble_eq_true rfl⟩ ddX4_meanDuties_4 (fun r2 σ1 H locs hS h => ?_)
  refine lv_istore_n (lv' := [(1, .int r2), (0, .ref (ga X 0))]) hx hb ddX4_meanDuties_7 rfl hl (by decide) rfl (fun ls hl => ?_)
  refine lv_iload_n hx hb ddX4_meanDuties_8 rfl (lv_at hl 0 rfl) ?_
  refine lv_if_gt (tgt := 22) hx hb ddX4_meanDuties_9 (by decide) (fun c3 => ?_) (fun c3 => ?_)
  · replace h := h.1 c3
    refine lv_aload_n hx hb ddX4_meanDuties_22 rfl (lv_at hl 1 rfl) ?_
    refine get_0_0 hx hb hown ht hK hS lk109 ddX4_meanDuties_23 ?_
    refine lv_iconst (v := (0 : Int32)) hx hb ddX4_meanDuties_26 (by decide) ?_
    refine k_VI (As := [.int (0 : Int32)]) (rest := []) (c_X2_allDuties l X h) mf_X2_allDuties lk166 hx hb hml hown ht hK hZ hS hA 1 1 rfl rfl rfl ⟨rfl, rfl⟩ ⟨Nat.le_of_ble_eq_true rfl, Nat.le_of_ble_eq_true rfl⟩ rfl hl.1 rfl (Nat.le_of_ble_eq_true rfl) ⟨Nat.le_of_ble_eq_true rfl, Nat.le_of_ble_eq_true rfl⟩ ddX4_meanDuties_27 (fun r5 σ4 H locs hS h => ?_)
    refine lv_i2d hx hb ddX4_meanDuties_30 ?_
    refine lv_iload_n hx hb ddX4_meanDuties_31 rfl (lv_at hl 0 rfl) ?_
    refine lv_i2d hx hb ddX4_meanDuties_32 ?_
    refine lv_ddiv hx hb ddX4_meanDuties_33 h.1 ?_
    replace h := h.2
    exact kx_dret hx hb hr hlocks hK hS h ddX4_meanDuties_34 ⟨Nat.le_of_ble_eq_true rfl, Nat.le_of_ble_eq_true rfl⟩
  · replace h := h.2 c3
    exact k_thrS t_AE 31 rfl hx hb hfl hown ht hY hK hZ hS h hout hlocks (hl.1.trans hml.symm) ddX4_meanDuties_12 ddX4_meanDuties_15 ddX4_meanDuties_16 ddX4_meanDuties_18 ddX4_meanDuties_21 ⟨Nat.le_of_ble_eq_true rfl, Nat.le_of_ble_eq_true rfl, Nat.le_of_ble_eq_true rfl, Nat.le_of_ble_eq_true rfl⟩ ⟨Nat.le_of_ble_eq_true rfl, Nat.le_of_ble_eq_true rfl⟩

set_option maxHeartbeats 4000000 in
set_option maxRecDepth 100000 in
theorem c_X4_coveredFraction (l : Launch) (X : GX) (hfl : l.stackTraces = false) {σ : Mem} {K : UInt32 → Mem → Prop} {KX : String → Mem → Prop} (h : wp_X4_coveredFraction σ K KX) : XFl l X yX4_coveredFraction cX4_coveredFraction 2 ((Option.some Jvm.ClassFile.FieldType.float)) ({ frames := 6, cells := 1, slots := 6, locals := 90 } : Room) 1 6 [.ref (ga X 0)] σ K KX := by
  refine entX (QQ := fun A => va_Qf K (BW X A) A) (by decide) (Nat.le_of_ble_eq_true rfl) ?_
  intro p e s m args below meth c A ls hx hb hr hlocks hml hown ht hK hZ hA hS hl hY hout
  have hown : s.vm.findClass "GuardRoster" = some m.cls := hown
  have hl : lv_has ls 2 [(0, .ref (ga X 0))] := hl
  unfold wp_X4_coveredFraction at h
  refine lv_bipush (v := (28 : Int32)) hx hb ddX4_coveredFraction_0 (by decide) ?_
  refine lv_aload_n hx hb ddX4_coveredFraction_2 rfl (lv_at hl 0 rfl) ?_
  refine get_0_0 hx hb hown ht hK hS lk109 ddX4_coveredFraction_3 ?_
  refine k_VI (As := []) (rest := [.int (28 : Int32)]) (c_X2_gates l X h) mf_X2_gates lk150 hx hb hml hown ht hK hZ hS hA 1 1 rfl rfl rfl ⟨rfl, rfl⟩ ⟨Nat.le_of_ble_eq_true rfl, Nat.le_of_ble_eq_true rfl⟩ rfl hl.1 rfl (Nat.le_of_ble_eq_true rfl) ⟨Nat.le_of_ble_eq_true rfl, Nat.le_of_ble_eq_true rfl⟩ ddX4_coveredFraction_6 (fun r2 σ1 H locs hS h => ?_)
  refine lv_imul hx hb ddX4_coveredFraction_9 ?_
  refine lv_topi (fun v3 ev3 => ?_)
  replace h := h v3 ev3
  refine lv_istore_n (lv' := [(1, .int v3), (0, .ref (ga X 0))]) hx hb ddX4_coveredFraction_10 rfl hl (by decide) rfl (fun ls hl => ?_)
  refine lv_iload_n hx hb ddX4_coveredFraction_11 rfl (lv_at hl 0 rfl) ?_
  refine lv_if_gt (tgt := 25) hx hb ddX4_coveredFraction_12 (by decide) (fun c4 => ?_) (fun c4 => ?_)
  · replace h := h.1 c4
    refine lv_aload_n hx hb ddX4_coveredFraction_25 rfl (lv_at hl 1 rfl) ?_
    refine get_0_0 hx hb hown ht hK hS lk109 ddX4_coveredFraction_26 ?_
    refine lv_iconst (v := (0 : Int32)) hx hb ddX4_coveredFraction_29 (by decide) ?_
    refine k_VI (As := [.int (0 : Int32)]) (rest := []) (c_X2_allDuties l X h) mf_X2_allDuties lk166 hx hb hml hown ht hK hZ hS hA 1 1 rfl rfl rfl ⟨rfl, rfl⟩ ⟨Nat.le_of_ble_eq_true rfl, Nat.le_of_ble_eq_true rfl⟩ rfl hl.1 rfl (Nat.le_of_ble_eq_true rfl) ⟨Nat.le_of_ble_eq_true rfl, Nat.le_of_ble_eq_true rfl⟩ ddX4_coveredFraction_30 (fun r6 σ5 H locs hS h => ?_)
    refine lv_i2f hx hb ddX4_coveredFraction_33 ?_
    refine lv_iload_n hx hb ddX4_coveredFraction_34 rfl (lv_at hl 0 rfl) ?_
    refine lv_i2f hx hb ddX4_coveredFraction_35 ?_
    refine lv_fdiv hx hb ddX4_coveredFraction_36 h.1 ?_
    replace h := h.2
    exact kx_fret hx hb hr hlocks hK hS h ddX4_coveredFraction_37 ⟨Nat.le_of_ble_eq_true rfl, Nat.le_of_ble_eq_true rfl⟩
  · replace h := h.2 c4
    exact k_thrS t_AE 32 rfl hx hb hfl hown ht hY hK hZ hS h hout hlocks (hl.1.trans hml.symm) ddX4_coveredFraction_15 ddX4_coveredFraction_18 ddX4_coveredFraction_19 ddX4_coveredFraction_21 ddX4_coveredFraction_24 ⟨Nat.le_of_ble_eq_true rfl, Nat.le_of_ble_eq_true rfl, Nat.le_of_ble_eq_true rfl, Nat.le_of_ble_eq_true rfl⟩ ⟨Nat.le_of_ble_eq_true rfl, Nat.le_of_ble_eq_true rfl⟩

set_option maxHeartbeats 4000000 in
set_option maxRecDepth 100000 in
theorem c_X4_writeSlot (l : Launch) (X : GX) (hfl : l.stackTraces = false) {x1 : Int32} {σ : Mem} {K : Int32 → Mem → Prop} {KX : String → Mem → Prop} (h : wp_X4_writeSlot x1 σ K KX) : XI l X yX4_writeSlot cX4_writeSlot 3 ((Option.some Jvm.ClassFile.FieldType.int)) ({ frames := 7, cells := 1, slots := 6, locals := 111 } : Room) 1 6 [.ref (ga X 0), .int x1] σ K KX := by
  refine entX (QQ := fun A => va_Qi K (BW X A) A) (by decide) (Nat.le_of_ble_eq_true rfl) ?_
  intro p e s m args below meth c A ls hx hb hr hlocks hml hown ht hK hZ hA hS hl hY hout
  have hown : s.vm.findClass "GuardRoster" = some m.cls := hown
  have hl : lv_has ls 3 [(0, .ref (ga X 0)), (1, .int x1)] := hl
  have hL42 : ∀ (n : Nat) (x1 x2 : Int32) (σ : Mem) (H : Heap) (locs : List Loc) (ls : Array Slot), WS X A s.heap σ H locs → lv_has ls 3 [(0, .ref (ga X 0)), (1, .int x1), (2, .int x2)] → wlp (wpF_X4_writeSlot_42 K KX) n (x1, x2, σ) → W p l e ({ frames := 7, cells := 1, slots := 6, locals := 111 } : Room) s m args below meth c H locs 1 6 (vx_MQ below (va_Qi K (BW X A) A) (XB X KX A) args s 1 6 A) (F0 m 42 ls []) := by
    intro n42
    induction n42 with
    | zero => intro x1 x2 σ H locs ls hS hl h; exact h.elim
    | succ n42 ih42 =>
      intro x1 x2 σ H locs ls hS hl h
      replace h : wpS_X4_writeSlot_42 K KX (wlp (wpF_X4_writeSlot_42 K KX) n42) x1 x2 σ := h
      unfold wpS_X4_writeSlot_42 at h
      refine lv_iload_n hx hb ddX4_writeSlot_42 rfl (lv_at hl 2 rfl) ?_
      refine lv_aload_n hx hb ddX4_writeSlot_43 rfl (lv_at hl 0 rfl) ?_
      refine get_0_0 hx hb hown ht hK hS lk109 ddX4_writeSlot_44 ?_
      refine k_VI (As := []) (rest := [.int x2]) (c_X2_gates l X h) mf_X2_gates lk150 hx hb hml hown ht hK hZ hS hA 1 1 rfl rfl rfl ⟨rfl, rfl⟩ ⟨Nat.le_of_ble_eq_true rfl, Nat.le_of_ble_eq_true rfl⟩ rfl hl.1 rfl (Nat.le_of_ble_eq_true rfl) ⟨Nat.le_of_ble_eq_true rfl, Nat.le_of_ble_eq_true rfl⟩ ddX4_writeSlot_47 (fun r8 σ7 H locs hS h => ?_)
      refine lv_icmp_ge (tgt := 80) hx hb ddX4_writeSlot_50 (by decide) (fun c9 => ?_) (fun c9 => ?_)
      · replace h := h.1 c9
        refine lv_aload_n hx hb ddX4_writeSlot_80 rfl (lv_at hl 0 rfl) ?_
        refine get_0_7 hx hb hown ht hK hS lk116 ddX4_writeSlot_81 ?_
        exact kx_iret hx hb hr hlocks hK hS h ddX4_writeSlot_84 ⟨Nat.le_of_ble_eq_true rfl, Nat.le_of_ble_eq_true rfl⟩
      · replace h := h.2 c9
        refine lv_aload_n hx hb ddX4_writeSlot_53 rfl (lv_at hl 0 rfl) ?_
        refine lv_bipush (v := (32 : Int32)) hx hb ddX4_writeSlot_54 (by decide) ?_
        refine k_VV (As := [.int (32 : Int32)]) (rest := []) (c_X4_put l X h) mf_X4_put lk899 hx hb hml hown ht hK hZ hS hA 0 0 rfl rfl rfl ⟨rfl, rfl⟩ ⟨Nat.le_of_ble_eq_true rfl, Nat.le_of_ble_eq_true rfl⟩ rfl hl.1 rfl (Nat.le_of_ble_eq_true rfl) ⟨Nat.le_of_ble_eq_true rfl, Nat.le_of_ble_eq_true rfl⟩ ddX4_writeSlot_56 (fun σ10 H locs hS h => ?_)
        refine lv_aload_n hx hb ddX4_writeSlot_59 rfl (lv_at hl 0 rfl) ?_
        refine lv_aload_n hx hb ddX4_writeSlot_60 rfl (lv_at hl 0 rfl) ?_
        refine get_0_0 hx hb hown ht hK hS lk109 ddX4_writeSlot_61 ?_
        refine lv_iload_n hx hb ddX4_writeSlot_64 rfl (lv_at hl 2 rfl) ?_
        refine lv_iload_n hx hb ddX4_writeSlot_65 rfl (lv_at hl 1 rfl) ?_
        refine k_VI (As := [.int x2, .int x1]) (rest := [.ref (ga X 0)]) (c_X2_guardOn l X h) mf_X2_guardOn lk626 hx hb hml hown ht hK hZ hS hA 1 1 rfl rfl rfl ⟨rfl, rfl⟩ ⟨Nat.le_of_ble_eq_true rfl, Nat.le_of_ble_eq_true rfl⟩ rfl hl.1 rfl (Nat.le_of_ble_eq_true rfl) ⟨Nat.le_of_ble_eq_true rfl, Nat.le_of_ble_eq_true rfl⟩ ddX4_writeSlot_66 (fun r12 σ11 H locs hS h => ?_)
        refine lv_bipush (v := (45 : Int32)) hx hb ddX4_writeSlot_69 (by decide) ?_
        refine k_VV (As := [.int r12, .int (45 : Int32)]) (rest := []) (c_X4_putNumberOr l X h) mf_X4_putNumberOr lk907 hx hb hml hown ht hK hZ hS hA 0 0 rfl rfl rfl ⟨rfl, rfl⟩ ⟨Nat.le_of_ble_eq_true rfl, Nat.le_of_ble_eq_true rfl⟩ rfl hl.1 rfl (Nat.le_of_ble_eq_true rfl) ⟨Nat.le_of_ble_eq_true rfl, Nat.le_of_ble_eq_true rfl⟩ ddX4_writeSlot_71 (fun σ13 H locs hS h => ?_)
        obtain ⟨v14, ev14⟩ : ∃ y : Int32, y = x2 + (1 : Int32) := ⟨_, rfl⟩
        replace h := h v14 ev14
        refine lv_iinc (v := v14) (lv' := [(2, .int v14), (0, .ref (ga X 0)), (1, .int x1)]) hx hb ddX4_writeSlot_74 hl (k := 2) rfl (by rw [ev14]; rfl) (by decide) rfl (fun ls hl => ?_)
        refine lv_goto (tgt := 42) hx hb ddX4_writeSlot_77 (by decide) ?_
        exact ih42 _ _ _ _ _ _ hS (lv_sub hl [1, 2, 0] rfl) h
  have hJ24 : ∀ (x1 y1 : Int32) (σ : Mem) (H : Heap) (locs : List Loc) (ls : Array Slot), WS X A s.heap σ H locs → lv_has ls 3 [(0, .ref (ga X 0)), (1, .int x1)] → wpJ_X4_writeSlot_24 K KX x1 y1 σ → W p l e ({ frames := 7, cells := 1, slots := 6, locals := 111 } : Room) s m args below meth c H locs 1 6 (vx_MQ below (va_Qi K (BW X A) A) (XB X KX A) args s 1 6 A) (F0 m 24 ls [.int y1, .ref (ga X 0)]) := by
    intro x1 y1 σ H locs ls hS hl h
    unfold wpJ_X4_writeSlot_24 at h
    refine k_VV (As := [.int y1]) (rest := []) (c_X4_put l X h) mf_X4_put lk899 hx hb hml hown ht hK hZ hS hA 0 0 rfl rfl rfl ⟨rfl, rfl⟩ ⟨Nat.le_of_ble_eq_true rfl, Nat.le_of_ble_eq_true rfl⟩ rfl hl.1 rfl (Nat.le_of_ble_eq_true rfl) ⟨Nat.le_of_ble_eq_true rfl, Nat.le_of_ble_eq_true rfl⟩ ddX4_writeSlot_24 (fun σ4 H locs hS h => ?_)
    refine lv_aload_n hx hb ddX4_writeSlot_27 rfl (lv_at hl 0 rfl) ?_
    refine lv_iload_n hx hb ddX4_writeSlot_28 rfl (lv_at hl 1 rfl) ?_
    refine lv_iconst (v := (2 : Int32)) hx hb ddX4_writeSlot_29 (by decide) ?_
    refine lv_idiv hx hb ddX4_writeSlot_30 (by decide) ?_
    refine k_VV (As := [.int (x1 / (2 : Int32))]) (rest := []) (c_X4_putNumber l X h) mf_X4_putNumber lk903 hx hb hml hown ht hK hZ hS hA 0 0 rfl rfl rfl ⟨rfl, rfl⟩ ⟨Nat.le_of_ble_eq_true rfl, Nat.le_of_ble_eq_true rfl⟩ rfl hl.1 rfl (Nat.le_of_ble_eq_true rfl) ⟨Nat.le_of_ble_eq_true rfl, Nat.le_of_ble_eq_true rfl⟩ ddX4_writeSlot_31 (fun σ5 H locs hS h => ?_)
    refine lv_aload_n hx hb ddX4_writeSlot_34 rfl (lv_at hl 0 rfl) ?_
    refine lv_bipush (v := (58 : Int32)) hx hb ddX4_writeSlot_35 (by decide) ?_
    refine k_VV (As := [.int (58 : Int32)]) (rest := []) (c_X4_put l X h) mf_X4_put lk899 hx hb hml hown ht hK hZ hS hA 0 0 rfl rfl rfl ⟨rfl, rfl⟩ ⟨Nat.le_of_ble_eq_true rfl, Nat.le_of_ble_eq_true rfl⟩ rfl hl.1 rfl (Nat.le_of_ble_eq_true rfl) ⟨Nat.le_of_ble_eq_true rfl, Nat.le_of_ble_eq_true rfl⟩ ddX4_writeSlot_37 (fun σ6 H locs hS h => ?_)
    refine lv_iconst (v := (0 : Int32)) hx hb ddX4_writeSlot_40 (by decide) ?_
    refine lv_istore_n (lv' := [(2, .int (0 : Int32)), (0, .ref (ga X 0)), (1, .int x1)]) hx hb ddX4_writeSlot_41 rfl hl (by decide) rfl (fun ls hl => ?_)
    obtain ⟨n, h⟩ := h
    exact hL42 n _ _ _ _ _ _ hS (lv_sub hl [1, 2, 0] rfl) h
  unfold wp_X4_writeSlot at h
  refine lv_aload_n hx hb ddX4_writeSlot_0 rfl (lv_at hl 0 rfl) ?_
  refine lv_iload_n hx hb ddX4_writeSlot_1 rfl (lv_at hl 1 rfl) ?_
  refine kx_VV (As := [.int x1]) (rest := []) (c_X4_throwUnlessSlot l X hfl h) mf_X4_throwUnlessSlot lk235 hx hb hml hown ht hK hZ hS hA hY 0 0 rfl rfl rfl ⟨rfl, rfl⟩ ⟨Nat.le_of_ble_eq_true rfl, Nat.le_of_ble_eq_true rfl⟩ rfl hl.1 rfl (Nat.le_of_ble_eq_true rfl) ⟨Nat.le_of_ble_eq_true rfl, Nat.le_of_ble_eq_true rfl⟩ ddX4_writeSlot_2 hout hlocks ⟨Nat.le_of_ble_eq_true rfl, Nat.le_of_ble_eq_true rfl⟩ (fun σ1 H locs hS h => ?_)
  refine lv_aload_n hx hb ddX4_writeSlot_5 rfl (lv_at hl 0 rfl) ?_
  refine lv_iconst (v := (0 : Int32)) hx hb ddX4_writeSlot_6 (by decide) ?_
  refine put_0_7 hx hb hown ht hK hS lk116 ddX4_writeSlot_7 (fun H locs hS => ?_)
  obtain ⟨σ2, eσ2⟩ : ∃ y : Mem, y = (st σ1 0 7 (0 : Int32)) := ⟨_, rfl⟩
  rw [← eσ2] at hS
  replace h := h σ2 eσ2
  refine lv_aload_n hx hb ddX4_writeSlot_10 rfl (lv_at hl 0 rfl) ?_
  refine lv_iload_n hx hb ddX4_writeSlot_11 rfl (lv_at hl 1 rfl) ?_
  refine lv_iconst (v := (2 : Int32)) hx hb ddX4_writeSlot_12 (by decide) ?_
  refine lv_irem hx hb ddX4_writeSlot_13 (by decide) ?_
  refine lv_if_ne (tgt := 22) hx hb ddX4_writeSlot_14 (by decide) (fun c3 => ?_) (fun c3 => ?_)
  · replace h := h.1 c3
    refine lv_bipush (v := (110 : Int32)) hx hb ddX4_writeSlot_22 (by decide) ?_
    exact hJ24 _ _ _ _ _ _ hS (lv_sub hl [0, 1] rfl) h
  · replace h := h.2 c3
    refine lv_bipush (v := (100 : Int32)) hx hb ddX4_writeSlot_17 (by decide) ?_
    refine lv_goto (tgt := 24) hx hb ddX4_writeSlot_19 (by decide) ?_
    exact hJ24 _ _ _ _ _ _ hS (lv_sub hl [0, 1] rfl) h

set_option maxHeartbeats 4000000 in
set_option maxRecDepth 100000 in
theorem c_X4_writeGuard (l : Launch) (X : GX) (hfl : l.stackTraces = false) {x1 : Int32} {σ : Mem} {K : Int32 → Mem → Prop} {KX : String → Mem → Prop} (h : wp_X4_writeGuard x1 σ K KX) : XI l X yX4_writeGuard cX4_writeGuard 3 ((Option.some Jvm.ClassFile.FieldType.int)) ({ frames := 7, cells := 1, slots := 6, locals := 111 } : Room) 1 6 [.ref (ga X 0), .int x1] σ K KX := by
  refine entX (QQ := fun A => va_Qi K (BW X A) A) (by decide) (Nat.le_of_ble_eq_true rfl) ?_
  intro p e s m args below meth c A ls hx hb hr hlocks hml hown ht hK hZ hA hS hl hY hout
  have hown : s.vm.findClass "GuardRoster" = some m.cls := hown
  have hl : lv_has ls 3 [(0, .ref (ga X 0)), (1, .int x1)] := hl
  have hL12 : ∀ (n : Nat) (x1 x2 : Int32) (σ : Mem) (H : Heap) (locs : List Loc) (ls : Array Slot), WS X A s.heap σ H locs → lv_has ls 3 [(0, .ref (ga X 0)), (1, .int x1), (2, .int x2)] → wlp (wpF_X4_writeGuard_12 K KX) n (x1, x2, σ) → W p l e ({ frames := 7, cells := 1, slots := 6, locals := 111 } : Room) s m args below meth c H locs 1 6 (vx_MQ below (va_Qi K (BW X A) A) (XB X KX A) args s 1 6 A) (F0 m 12 ls []) := by
    intro n12
    induction n12 with
    | zero => intro x1 x2 σ H locs ls hS hl h; exact h.elim
    | succ n12 ih12 =>
      have hJ47 : ∀ (x1 x2 y1 y2 : Int32) (σ : Mem) (H : Heap) (locs : List Loc) (ls : Array Slot), WS X A s.heap σ H locs → lv_has ls 3 [(0, .ref (ga X 0)), (1, .int x1), (2, .int x2)] → wpJ_X4_writeGuard_47 K KX (wlp (wpF_X4_writeGuard_12 K KX) n12) x1 x2 y1 y2 σ → W p l e ({ frames := 7, cells := 1, slots := 6, locals := 111 } : Room) s m args below meth c H locs 1 6 (vx_MQ below (va_Qi K (BW X A) A) (XB X KX A) args s 1 6 A) (F0 m 47 ls [.int y2, .int y1, .ref (ga X 0)]) := by
        intro x1 x2 y1 y2 σ H locs ls hS hl h
        unfold wpJ_X4_writeGuard_47 at h
        refine k_VV (As := [.int y1, .int y2]) (rest := []) (c_X4_putNumberOr l X h) mf_X4_putNumberOr lk907 hx hb hml hown ht hK hZ hS hA 0 0 rfl rfl rfl ⟨rfl, rfl⟩ ⟨Nat.le_of_ble_eq_true rfl, Nat.le_of_ble_eq_true rfl⟩ rfl hl.1 rfl (Nat.le_of_ble_eq_true rfl) ⟨Nat.le_of_ble_eq_true rfl, Nat.le_of_ble_eq_true rfl⟩ ddX4_writeGuard_47 (fun σ9 H locs hS h => ?_)
        obtain ⟨v10, ev10⟩ : ∃ y : Int32, y = x2 + (1 : Int32) := ⟨_, rfl⟩
        replace h := h v10 ev10
        refine lv_iinc (v := v10) (lv' := [(2, .int v10), (0, .ref (ga X 0)), (1, .int x1)]) hx hb ddX4_writeGuard_50 hl (k := 2) rfl (by rw [ev10]; rfl) (by decide) rfl (fun ls hl => ?_)
        refine lv_goto (tgt := 12) hx hb ddX4_writeGuard_53 (by decide) ?_
        exact ih12 _ _ _ _ _ _ hS (lv_sub hl [1, 2, 0] rfl) h
      intro x1 x2 σ H locs ls hS hl h
      replace h : wpS_X4_writeGuard_12 K KX (wlp (wpF_X4_writeGuard_12 K KX) n12) x1 x2 σ := h
      unfold wpS_X4_writeGuard_12 at h
      refine lv_iload_n hx hb ddX4_writeGuard_12 rfl (lv_at hl 2 rfl) ?_
      refine lv_bipush (v := (28 : Int32)) hx hb ddX4_writeGuard_13 (by decide) ?_
      refine lv_icmp_ge (tgt := 56) hx hb ddX4_writeGuard_15 (by decide) (fun c3 => ?_) (fun c3 => ?_)
      · replace h := h.1 c3
        refine lv_aload_n hx hb ddX4_writeGuard_56 rfl (lv_at hl 0 rfl) ?_
        refine get_0_7 hx hb hown ht hK hS lk116 ddX4_writeGuard_57 ?_
        exact kx_iret hx hb hr hlocks hK hS h ddX4_writeGuard_60 ⟨Nat.le_of_ble_eq_true rfl, Nat.le_of_ble_eq_true rfl⟩
      · replace h := h.2 c3
        refine lv_aload_n hx hb ddX4_writeGuard_18 rfl (lv_at hl 0 rfl) ?_
        refine lv_aload_n hx hb ddX4_writeGuard_19 rfl (lv_at hl 0 rfl) ?_
        refine get_0_0 hx hb hown ht hK hS lk109 ddX4_writeGuard_20 ?_
        refine lv_iload_n hx hb ddX4_writeGuard_23 rfl (lv_at hl 1 rfl) ?_
        refine lv_iload_n hx hb ddX4_writeGuard_24 rfl (lv_at hl 2 rfl) ?_
        refine k_VI (As := [.int x1, .int x2]) (rest := [.ref (ga X 0)]) (c_X2_gateHeld l X h) mf_X2_gateHeld lk692 hx hb hml hown ht hK hZ hS hA 1 1 rfl rfl rfl ⟨rfl, rfl⟩ ⟨Nat.le_of_ble_eq_true rfl, Nat.le_of_ble_eq_true rfl⟩ rfl hl.1 rfl (Nat.le_of_ble_eq_true rfl) ⟨Nat.le_of_ble_eq_true rfl, Nat.le_of_ble_eq_true rfl⟩ ddX4_writeGuard_25 (fun r5 σ4 H locs hS h => ?_)
        refine lv_aload_n hx hb ddX4_writeGuard_28 rfl (lv_at hl 0 rfl) ?_
        refine get_0_0 hx hb hown ht hK hS lk109 ddX4_writeGuard_29 ?_
        refine lv_iload_n hx hb ddX4_writeGuard_32 rfl (lv_at hl 1 rfl) ?_
        refine lv_iload_n hx hb ddX4_writeGuard_33 rfl (lv_at hl 2 rfl) ?_
        refine k_VI (As := [.int x1, .int x2]) (rest := [.int r5, .ref (ga X 0)]) (c_X2_hasLeave l X h) mf_X2_hasLeave lk786 hx hb hml hown ht hK hZ hS hA 1 1 rfl rfl rfl ⟨rfl, rfl⟩ ⟨Nat.le_of_ble_eq_true rfl, Nat.le_of_ble_eq_true rfl⟩ rfl hl.1 rfl (Nat.le_of_ble_eq_true rfl) ⟨Nat.le_of_ble_eq_true rfl, Nat.le_of_ble_eq_true rfl⟩ ddX4_writeGuard_34 (fun r7 σ6 H locs hS h => ?_)
        refine lv_if_eq (tgt := 45) hx hb ddX4_writeGuard_37 (by decide) (fun c8 => ?_) (fun c8 => ?_)
        · replace h := h.1 c8
          refine lv_bipush (v := (46 : Int32)) hx hb ddX4_writeGuard_45 (by decide) ?_
          exact hJ47 _ _ _ _ _ _ _ _ hS (lv_sub hl [0, 1, 2] rfl) h
        · replace h := h.2 c8
          refine lv_bipush (v := (120 : Int32)) hx hb ddX4_writeGuard_40 (by decide) ?_
          refine lv_goto (tgt := 47) hx hb ddX4_writeGuard_42 (by decide) ?_
          exact hJ47 _ _ _ _ _ _ _ _ hS (lv_sub hl [0, 1, 2] rfl) h
  unfold wp_X4_writeGuard at h
  refine lv_aload_n hx hb ddX4_writeGuard_0 rfl (lv_at hl 0 rfl) ?_
  refine lv_iload_n hx hb ddX4_writeGuard_1 rfl (lv_at hl 1 rfl) ?_
  refine kx_VV (As := [.int x1]) (rest := []) (c_X4_throwUnlessGuard l X hfl h) mf_X4_throwUnlessGuard lk552 hx hb hml hown ht hK hZ hS hA hY 0 0 rfl rfl rfl ⟨rfl, rfl⟩ ⟨Nat.le_of_ble_eq_true rfl, Nat.le_of_ble_eq_true rfl⟩ rfl hl.1 rfl (Nat.le_of_ble_eq_true rfl) ⟨Nat.le_of_ble_eq_true rfl, Nat.le_of_ble_eq_true rfl⟩ ddX4_writeGuard_2 hout hlocks ⟨Nat.le_of_ble_eq_true rfl, Nat.le_of_ble_eq_true rfl⟩ (fun σ1 H locs hS h => ?_)
  refine lv_aload_n hx hb ddX4_writeGuard_5 rfl (lv_at hl 0 rfl) ?_
  refine lv_iconst (v := (0 : Int32)) hx hb ddX4_writeGuard_6 (by decide) ?_
  refine put_0_7 hx hb hown ht hK hS lk116 ddX4_writeGuard_7 (fun H locs hS => ?_)
  obtain ⟨σ2, eσ2⟩ : ∃ y : Mem, y = (st σ1 0 7 (0 : Int32)) := ⟨_, rfl⟩
  rw [← eσ2] at hS
  replace h := h σ2 eσ2
  refine lv_iconst (v := (0 : Int32)) hx hb ddX4_writeGuard_10 (by decide) ?_
  refine lv_istore_n (lv' := [(2, .int (0 : Int32)), (0, .ref (ga X 0)), (1, .int x1)]) hx hb ddX4_writeGuard_11 rfl hl (by decide) rfl (fun ls hl => ?_)
  obtain ⟨n, h⟩ := h
  exact hL12 n _ _ _ _ _ _ hS (lv_sub hl [1, 2, 0] rfl) h

set_option maxHeartbeats 4000000 in
set_option maxRecDepth 100000 in
theorem c_X4_outputCharacter (l : Launch) (X : GX) (hfl : l.stackTraces = false) {x1 : Int32} {σ : Mem} {K : Int32 → Mem → Prop} {KX : String → Mem → Prop} (h : wp_X4_outputCharacter x1 σ K KX) : XI l X yX4_outputCharacter cX4_outputCharacter 2 ((Option.some Jvm.ClassFile.FieldType.char)) ({ frames := 6, cells := 1, slots := 6, locals := 90 } : Room) 1 6 [.ref (ga X 0), .int x1] σ K KX := by
  refine entX (QQ := fun A => va_Qi K (BW X A) A) (by decide) (Nat.le_of_ble_eq_true rfl) ?_
  intro p e s m args below meth c A ls hx hb hr hlocks hml hown ht hK hZ hA hS hl hY hout
  have hown : s.vm.findClass "GuardRoster" = some m.cls := hown
  have hl : lv_has ls 2 [(0, .ref (ga X 0)), (1, .int x1)] := hl
  unfold wp_X4_outputCharacter at h
  refine lv_iload_n hx hb ddX4_outputCharacter_0 rfl (lv_at hl 1 rfl) ?_
  refine lv_if_lt (tgt := 18) hx hb ddX4_outputCharacter_1 (by decide) (fun c1 => ?_) (fun c1 => ?_)
  · replace h := h.1 c1
    exact k_thrW t_IOOBE 33 rfl hx hb hfl hown ht hY hK hZ hS h hout hlocks (hl.1.trans hml.symm) ddX4_outputCharacter_18 ddX4_outputCharacter_21 ddX4_outputCharacter_22 ddX4_outputCharacter_25 ddX4_outputCharacter_28 ⟨Nat.le_of_ble_eq_true rfl, Nat.le_of_ble_eq_true rfl, Nat.le_of_ble_eq_true rfl, Nat.le_of_ble_eq_true rfl⟩ ⟨Nat.le_of_ble_eq_true rfl, Nat.le_of_ble_eq_true rfl⟩
  · replace h := h.2 c1
    refine lv_iload_n hx hb ddX4_outputCharacter_4 rfl (lv_at hl 1 rfl) ?_
    refine lv_aload_n hx hb ddX4_outputCharacter_5 rfl (lv_at hl 0 rfl) ?_
    refine get_0_7 hx hb hown ht hK hS lk116 ddX4_outputCharacter_6 ?_
    refine lv_icmp_ge (tgt := 18) hx hb ddX4_outputCharacter_9 (by decide) (fun c2 => ?_) (fun c2 => ?_)
    · replace h := h.1 c2
      exact k_thrW t_IOOBE 33 rfl hx hb hfl hown ht hY hK hZ hS h hout hlocks (hl.1.trans hml.symm) ddX4_outputCharacter_18 ddX4_outputCharacter_21 ddX4_outputCharacter_22 ddX4_outputCharacter_25 ddX4_outputCharacter_28 ⟨Nat.le_of_ble_eq_true rfl, Nat.le_of_ble_eq_true rfl, Nat.le_of_ble_eq_true rfl, Nat.le_of_ble_eq_true rfl⟩ ⟨Nat.le_of_ble_eq_true rfl, Nat.le_of_ble_eq_true rfl⟩
    · replace h := h.2 c2
      refine lv_iload_n hx hb ddX4_outputCharacter_12 rfl (lv_at hl 1 rfl) ?_
      refine lv_bipush (v := (28 : Int32)) hx hb ddX4_outputCharacter_13 (by decide) ?_
      refine lv_icmp_lt (tgt := 29) hx hb ddX4_outputCharacter_15 (by decide) (fun c3 => ?_) (fun c3 => ?_)
      · replace h := h.1 c3
        refine lv_aload_n hx hb ddX4_outputCharacter_29 rfl (lv_at hl 0 rfl) ?_
        refine get_0_6 hx hb hown ht hK hS lk115 ddX4_outputCharacter_30 ?_
        refine lv_iload_n hx hb ddX4_outputCharacter_33 rfl (lv_at hl 1 rfl) ?_
        refine ald_24 hx hb hK hS h.1 ddX4_outputCharacter_34 ?_
        replace h := h.2
        exact kx_zret hx hb hr hlocks hK hS h.1 h.2 ddX4_outputCharacter_35 ⟨Nat.le_of_ble_eq_true rfl, Nat.le_of_ble_eq_true rfl⟩
      · replace h := h.2 c3
        exact k_thrW t_IOOBE 33 rfl hx hb hfl hown ht hY hK hZ hS h hout hlocks (hl.1.trans hml.symm) ddX4_outputCharacter_18 ddX4_outputCharacter_21 ddX4_outputCharacter_22 ddX4_outputCharacter_25 ddX4_outputCharacter_28 ⟨Nat.le_of_ble_eq_true rfl, Nat.le_of_ble_eq_true rfl, Nat.le_of_ble_eq_true rfl, Nat.le_of_ble_eq_true rfl⟩ ⟨Nat.le_of_ble_eq_true rfl, Nat.le_of_ble_eq_true rfl⟩

set_option maxHeartbeats 4000000 in
set_option maxRecDepth 100000 in
theorem c_X4_feed (l : Launch) (X : GX) (hfl : l.stackTraces = false) {x1 : Int32} {σ : Mem} {K : Int32 → Mem → Prop} {KX : String → Mem → Prop} (h : wp_X4_feed x1 σ K KX) : XI l X yX4_feed cX4_feed 2 ((Option.some Jvm.ClassFile.FieldType.int)) ({ frames := 6, cells := 1, slots := 6, locals := 90 } : Room) 1 6 [.ref (ga X 0), .int x1] σ K KX := by
  refine entX (QQ := fun A => va_Qi K (BW X A) A) (by decide) (Nat.le_of_ble_eq_true rfl) ?_
  intro p e s m args below meth c A ls hx hb hr hlocks hml hown ht hK hZ hA hS hl hY hout
  have hown : s.vm.findClass "GuardRoster" = some m.cls := hown
  have hl : lv_has ls 2 [(0, .ref (ga X 0)), (1, .int x1)] := hl
  unfold wp_X4_feed at h
  refine lv_aload_n hx hb ddX4_feed_0 rfl (lv_at hl 0 rfl) ?_
  refine get_0_3 hx hb hown ht hK hS lk112 ddX4_feed_1 ?_
  refine k_VI (As := []) (rest := []) (c_X0_isFull l X h) mf_X0_isFull lk933 hx hb hml hown ht hK hZ hS hA 19 4 rfl rfl rfl ⟨rfl, rfl⟩ ⟨Nat.le_of_ble_eq_true rfl, Nat.le_of_ble_eq_true rfl⟩ rfl hl.1 rfl (Nat.le_of_ble_eq_true rfl) ⟨Nat.le_of_ble_eq_true rfl, Nat.le_of_ble_eq_true rfl⟩ ddX4_feed_4 (fun r2 σ1 H locs hS h => ?_)
  refine lv_if_eq (tgt := 21) hx hb ddX4_feed_7 (by decide) (fun c3 => ?_) (fun c3 => ?_)
  · replace h := h.1 c3
    refine lv_aload_n hx hb ddX4_feed_21 rfl (lv_at hl 0 rfl) ?_
    refine get_0_3 hx hb hown ht hK hS lk112 ddX4_feed_22 ?_
    refine lv_iload_n hx hb ddX4_feed_25 rfl (lv_at hl 1 rfl) ?_
    refine k_VI (As := [.int x1]) (rest := []) (c_X0_append l X h) mf_X0_append lk938 hx hb hml hown ht hK hZ hS hA 19 4 rfl rfl rfl ⟨rfl, rfl⟩ ⟨Nat.le_of_ble_eq_true rfl, Nat.le_of_ble_eq_true rfl⟩ rfl hl.1 rfl (Nat.le_of_ble_eq_true rfl) ⟨Nat.le_of_ble_eq_true rfl, Nat.le_of_ble_eq_true rfl⟩ ddX4_feed_26 (fun r5 σ4 H locs hS h => ?_)
    exact kx_iret hx hb hr hlocks hK hS h ddX4_feed_29 ⟨Nat.le_of_ble_eq_true rfl, Nat.le_of_ble_eq_true rfl⟩
  · replace h := h.2 c3
    exact k_thrW t_ISE 34 rfl hx hb hfl hown ht hY hK hZ hS h hout hlocks (hl.1.trans hml.symm) ddX4_feed_10 ddX4_feed_13 ddX4_feed_14 ddX4_feed_17 ddX4_feed_20 ⟨Nat.le_of_ble_eq_true rfl, Nat.le_of_ble_eq_true rfl, Nat.le_of_ble_eq_true rfl, Nat.le_of_ble_eq_true rfl⟩ ⟨Nat.le_of_ble_eq_true rfl, Nat.le_of_ble_eq_true rfl⟩

set_option maxHeartbeats 4000000 in
set_option maxRecDepth 100000 in
theorem c_X4_execute (l : Launch) (X : GX) (hfl : l.stackTraces = false) {σ : Mem} {K : Int32 → Mem → Prop} {KX : String → Mem → Prop} (h : wp_X4_execute σ K KX) : XI l X yX4_execute cX4_execute 3 ((Option.some Jvm.ClassFile.FieldType.int)) ({ frames := 7, cells := 1, slots := 6, locals := 166 } : Room) 1 6 [.ref (ga X 0)] σ K KX := by
  refine entX (QQ := fun A => va_Qi K (BW X A) A) (by decide) (Nat.le_of_ble_eq_true rfl) ?_
  intro p e s m args below meth c A ls hx hb hr hlocks hml hown ht hK hZ hA hS hl hY hout
  have hown : s.vm.findClass "GuardRoster" = some m.cls := hown
  have hl : lv_has ls 3 [(0, .ref (ga X 0))] := hl
  have hJ106 : ∀ (σ : Mem) (H : Heap) (locs : List Loc) (ls : Array Slot), WS X A s.heap σ H locs → lv_has ls 3 [(0, .ref (ga X 0))] → wpJ_X4_execute_106 K KX σ → W p l e ({ frames := 7, cells := 1, slots := 6, locals := 166 } : Room) s m args below meth c H locs 0 0 (vx_MQ below (va_Qi K (BW X A) A) (XB X KX A) args s 1 6 A) (F0 m 106 ls []) := by
    intro  σ H locs ls hS hl h
    unfold wpJ_X4_execute_106 at h
    refine lv_aload_n hx hb ddX4_execute_106 rfl (lv_at hl 0 rfl) ?_
    refine get_0_1 hx hb hown ht hK hS lk110 ddX4_execute_107 ?_
    refine k_VV (As := []) (rest := []) (c_X1_end l X h) mf_X1_end lk1075 hx hb hml hown ht hK hZ hS hA 4 2 rfl rfl rfl ⟨rfl, rfl⟩ ⟨Nat.le_of_ble_eq_true rfl, Nat.le_of_ble_eq_true rfl⟩ rfl hl.1 rfl (Nat.le_of_ble_eq_true rfl) ⟨Nat.le_of_ble_eq_true rfl, Nat.le_of_ble_eq_true rfl⟩ ddX4_execute_110 (fun σ9 H locs hS h => ?_)
    refine lv_aload_n hx hb ddX4_execute_113 rfl (lv_at hl 0 rfl) ?_
    refine get_0_3 hx hb hown ht hK hS lk112 ddX4_execute_114 ?_
    refine k_VI (As := []) (rest := []) (c_X0_commands l X h) mf_X0_commands lk1042 hx hb hml hown ht hK hZ hS hA 19 4 rfl rfl rfl ⟨rfl, rfl⟩ ⟨Nat.le_of_ble_eq_true rfl, Nat.le_of_ble_eq_true rfl⟩ rfl hl.1 rfl (Nat.le_of_ble_eq_true rfl) ⟨Nat.le_of_ble_eq_true rfl, Nat.le_of_ble_eq_true rfl⟩ ddX4_execute_117 (fun r11 σ10 H locs hS h => ?_)
    exact kx_iret hx hb hr hlocks hK hS h ddX4_execute_120 ⟨Nat.le_of_ble_eq_true rfl, Nat.le_of_ble_eq_true rfl⟩
  have hJ73 : ∀ (x2 : Int32) (σ : Mem) (H : Heap) (locs : List Loc) (ls : Array Slot), WS X A s.heap σ H locs → lv_has ls 3 [(0, .ref (ga X 0)), (2, .int x2)] → wpJ_X4_execute_73 K KX x2 σ → W p l e ({ frames := 7, cells := 1, slots := 6, locals := 166 } : Room) s m args below meth c H locs 0 0 (vx_MQ below (va_Qi K (BW X A) A) (XB X KX A) args s 1 6 A) (F0 m 73 ls []) := by
    intro x2 σ H locs ls hS hl h
    unfold wpJ_X4_execute_73 at h
    refine lv_aload_n hx hb ddX4_execute_73 rfl (lv_at hl 0 rfl) ?_
    refine get_0_1 hx hb hown ht hK hS lk110 ddX4_execute_74 ?_
    refine lv_aload_n hx hb ddX4_execute_77 rfl (lv_at hl 0 rfl) ?_
    refine get_0_0 hx hb hown ht hK hS lk109 ddX4_execute_78 ?_
    refine k_VV (As := [.ref (ga X 1)]) (rest := []) (c_X1_backOut l X h) mf_X1_backOut lk1066 hx hb hml hown ht hK hZ hS hA 4 2 rfl rfl rfl ⟨rfl, rfl⟩ ⟨Nat.le_of_ble_eq_true rfl, Nat.le_of_ble_eq_true rfl⟩ rfl hl.1 rfl (Nat.le_of_ble_eq_true rfl) ⟨Nat.le_of_ble_eq_true rfl, Nat.le_of_ble_eq_true rfl⟩ ddX4_execute_81 (fun σ16 H locs hS h => ?_)
    refine lv_aload_n hx hb ddX4_execute_84 rfl (lv_at hl 0 rfl) ?_
    refine lv_iload_n hx hb ddX4_execute_85 rfl (lv_at hl 1 rfl) ?_
    refine put_0_11 hx hb hown ht hK hS lk120 ddX4_execute_86 (fun H locs hS => ?_)
    obtain ⟨σ17, eσ17⟩ : ∃ y : Mem, y = (st σ16 0 11 x2) := ⟨_, rfl⟩
    rw [← eσ17] at hS
    replace h := h σ17 eσ17
    exact k_thrW t_UOE 36 rfl hx hb hfl hown ht hY hK hZ hS h hout hlocks (hl.1.trans hml.symm) ddX4_execute_89 ddX4_execute_92 ddX4_execute_93 ddX4_execute_96 ddX4_execute_99 ⟨Nat.le_of_ble_eq_true rfl, Nat.le_of_ble_eq_true rfl, Nat.le_of_ble_eq_true rfl, Nat.le_of_ble_eq_true rfl⟩ ⟨Nat.le_of_ble_eq_true rfl, Nat.le_of_ble_eq_true rfl⟩
  have hL54 : ∀ (n : Nat) (x2 : Int32) (σ : Mem) (H : Heap) (locs : List Loc) (ls : Array Slot), WS X A s.heap σ H locs → lv_has ls 3 [(0, .ref (ga X 0)), (2, .int x2)] → wlp (wpF_X4_execute_54 K KX) n (x2, σ) → W p l e ({ frames := 7, cells := 1, slots := 6, locals := 166 } : Room) s m args below meth c H locs 0 0 (vx_MQ below (va_Qi K (BW X A) A) (XB X KX A) args s 1 6 A) (F0 m 54 ls []) := by
    intro n54
    induction n54 with
    | zero => intro x2 σ H locs ls hS hl h; exact h.elim
    | succ n54 ih54 =>
      intro x2 σ H locs ls hS hl h
      replace h : wpS_X4_execute_54 K KX (wlp (wpF_X4_execute_54 K KX) n54) x2 σ := h
      unfold wpS_X4_execute_54 at h
      refine lv_iload_n hx hb ddX4_execute_54 rfl (lv_at hl 1 rfl) ?_
      refine lv_aload_n hx hb ddX4_execute_55 rfl (lv_at hl 0 rfl) ?_
      refine get_0_3 hx hb hown ht hK hS lk112 ddX4_execute_56 ?_
      refine k_VI (As := []) (rest := [.int x2]) (c_X0_commands l X h) mf_X0_commands lk1042 hx hb hml hown ht hK hZ hS hA 19 4 rfl rfl rfl ⟨rfl, rfl⟩ ⟨Nat.le_of_ble_eq_true rfl, Nat.le_of_ble_eq_true rfl⟩ rfl hl.1 rfl (Nat.le_of_ble_eq_true rfl) ⟨Nat.le_of_ble_eq_true rfl, Nat.le_of_ble_eq_true rfl⟩ ddX4_execute_59 (fun r7 σ6 H locs hS h => ?_)
      refine lv_icmp_ge (tgt := 106) hx hb ddX4_execute_62 (by decide) (fun c8 => ?_) (fun c8 => ?_)
      · replace h := h.1 c8
        exact hJ106  _ _ _ _ hS (lv_sub hl [0] rfl) h
      · replace h := h.2 c8
        refine lv_aload_n hx hb ddX4_execute_65 rfl (lv_at hl 0 rfl) ?_
        refine lv_iload_n hx hb ddX4_execute_66 rfl (lv_at hl 1 rfl) ?_
        refine k_VI (As := [.int x2]) (rest := []) (c_X4_runs l X h) mf_X4_runs lk1046 hx hb hml hown ht hK hZ hS hA 0 0 rfl rfl rfl ⟨rfl, rfl⟩ ⟨Nat.le_of_ble_eq_true rfl, Nat.le_of_ble_eq_true rfl⟩ rfl hl.1 rfl (Nat.le_of_ble_eq_true rfl) ⟨Nat.le_of_ble_eq_true rfl, Nat.le_of_ble_eq_true rfl⟩ ddX4_execute_67 (fun r13 σ12 H locs hS h => ?_)
        refine lv_if_ne (tgt := 100) hx hb ddX4_execute_70 (by decide) (fun c14 => ?_) (fun c14 => ?_)
        · replace h := h.1 c14
          obtain ⟨v15, ev15⟩ : ∃ y : Int32, y = x2 + (1 : Int32) := ⟨_, rfl⟩
          replace h := h v15 ev15
          refine lv_iinc (v := v15) (lv' := [(2, .int v15), (0, .ref (ga X 0))]) hx hb ddX4_execute_100 hl (k := 1) rfl (by rw [ev15]; rfl) (by decide) rfl (fun ls hl => ?_)
          refine lv_goto (tgt := 54) hx hb ddX4_execute_103 (by decide) ?_
          exact ih54 _ _ _ _ _ hS (lv_sub hl [1, 0] rfl) h
        · replace h := h.2 c14
          exact hJ73 _ _ _ _ _ hS (lv_sub hl [0, 1] rfl) h
  unfold wp_X4_execute at h
  refine lv_aload_n hx hb ddX4_execute_0 rfl (lv_at hl 0 rfl) ?_
  refine get_0_3 hx hb hown ht hK hS lk112 ddX4_execute_1 ?_
  refine k_VI (As := []) (rest := []) (c_X0_parse l X h) mf_X0_parse lk949 hx hb hml hown ht hK hZ hS hA 19 4 rfl rfl rfl ⟨rfl, rfl⟩ ⟨Nat.le_of_ble_eq_true rfl, Nat.le_of_ble_eq_true rfl⟩ rfl hl.1 rfl (Nat.le_of_ble_eq_true rfl) ⟨Nat.le_of_ble_eq_true rfl, Nat.le_of_ble_eq_true rfl⟩ ddX4_execute_4 (fun r2 σ1 H locs hS h => ?_)
  refine lv_istore_n (lv' := [(1, .int r2), (0, .ref (ga X 0))]) hx hb ddX4_execute_7 rfl hl (by decide) rfl (fun ls hl => ?_)
  refine lv_aload_n hx hb ddX4_execute_8 rfl (lv_at hl 1 rfl) ?_
  refine get_0_3 hx hb hown ht hK hS lk112 ddX4_execute_9 ?_
  refine k_VV (As := []) (rest := []) (c_X0_empty l X h) mf_X0_empty lk1032 hx hb hml hown ht hK hZ hS hA 19 4 rfl rfl rfl ⟨rfl, rfl⟩ ⟨Nat.le_of_ble_eq_true rfl, Nat.le_of_ble_eq_true rfl⟩ rfl hl.1 rfl (Nat.le_of_ble_eq_true rfl) ⟨Nat.le_of_ble_eq_true rfl, Nat.le_of_ble_eq_true rfl⟩ ddX4_execute_12 (fun σ3 H locs hS h => ?_)
  refine lv_iload_n hx hb ddX4_execute_15 rfl (lv_at hl 0 rfl) ?_
  refine lv_if_ne (tgt := 41) hx hb ddX4_execute_16 (by decide) (fun c4 => ?_) (fun c4 => ?_)
  · replace h := h.1 c4
    refine lv_aload_n hx hb ddX4_execute_41 rfl (lv_at hl 1 rfl) ?_
    refine get_0_1 hx hb hown ht hK hS lk110 ddX4_execute_42 ?_
    refine lv_aload_n hx hb ddX4_execute_45 rfl (lv_at hl 1 rfl) ?_
    refine get_0_0 hx hb hown ht hK hS lk109 ddX4_execute_46 ?_
    refine k_VV (As := [.ref (ga X 1)]) (rest := []) (c_X1_begin l X h) mf_X1_begin lk1041 hx hb hml hown ht hK hZ hS hA 4 2 rfl rfl rfl ⟨rfl, rfl⟩ ⟨Nat.le_of_ble_eq_true rfl, Nat.le_of_ble_eq_true rfl⟩ rfl hl.1 rfl (Nat.le_of_ble_eq_true rfl) ⟨Nat.le_of_ble_eq_true rfl, Nat.le_of_ble_eq_true rfl⟩ ddX4_execute_49 (fun σ5 H locs hS h => ?_)
    refine lv_iconst (v := (0 : Int32)) hx hb ddX4_execute_52 (by decide) ?_
    refine lv_istore_n (lv' := [(2, .int (0 : Int32)), (1, .int r2), (0, .ref (ga X 0))]) hx hb ddX4_execute_53 rfl hl (by decide) rfl (fun ls hl => ?_)
    obtain ⟨n, h⟩ := h
    exact hL54 n _ _ _ _ _ hS (lv_sub hl [2, 0] rfl) h
  · replace h := h.2 c4
    refine lv_aload_n hx hb ddX4_execute_19 rfl (lv_at hl 1 rfl) ?_
    refine lv_aload_n hx hb ddX4_execute_20 rfl (lv_at hl 1 rfl) ?_
    refine get_0_3 hx hb hown ht hK hS lk112 ddX4_execute_21 ?_
    refine k_VI (As := []) (rest := [.ref (ga X 0)]) (c_X0_firstWrong l X h) mf_X0_firstWrong lk1036 hx hb hml hown ht hK hZ hS hA 19 4 rfl rfl rfl ⟨rfl, rfl⟩ ⟨Nat.le_of_ble_eq_true rfl, Nat.le_of_ble_eq_true rfl⟩ rfl hl.1 rfl (Nat.le_of_ble_eq_true rfl) ⟨Nat.le_of_ble_eq_true rfl, Nat.le_of_ble_eq_true rfl⟩ ddX4_execute_24 (fun r19 σ18 H locs hS h => ?_)
    refine put_0_10 hx hb hown ht hK hS lk119 ddX4_execute_27 (fun H locs hS => ?_)
    obtain ⟨σ20, eσ20⟩ : ∃ y : Mem, y = (st σ18 0 10 r19) := ⟨_, rfl⟩
    rw [← eσ20] at hS
    replace h := h σ20 eσ20
    exact k_thrW t_IAE 35 rfl hx hb hfl hown ht hY hK hZ hS h hout hlocks (hl.1.trans hml.symm) ddX4_execute_30 ddX4_execute_33 ddX4_execute_34 ddX4_execute_37 ddX4_execute_40 ⟨Nat.le_of_ble_eq_true rfl, Nat.le_of_ble_eq_true rfl, Nat.le_of_ble_eq_true rfl, Nat.le_of_ble_eq_true rfl⟩ ⟨Nat.le_of_ble_eq_true rfl, Nat.le_of_ble_eq_true rfl⟩

set_option maxHeartbeats 4000000 in
set_option maxRecDepth 100000 in
theorem c_X4_errorPosition (l : Launch) (X : GX) (hfl : l.stackTraces = false) {σ : Mem} {K : Int32 → Mem → Prop} {KX : String → Mem → Prop} (h : wp_X4_errorPosition σ K KX) : XI l X yX4_errorPosition cX4_errorPosition 1 ((Option.some Jvm.ClassFile.FieldType.int)) ({ frames := 6, cells := 1, slots := 6, locals := 90 } : Room) 1 6 [.ref (ga X 0)] σ K KX := by
  refine entX (QQ := fun A => va_Qi K (BW X A) A) (by decide) (Nat.le_of_ble_eq_true rfl) ?_
  intro p e s m args below meth c A ls hx hb hr hlocks hml hown ht hK hZ hA hS hl hY hout
  have hown : s.vm.findClass "GuardRoster" = some m.cls := hown
  have hl : lv_has ls 1 [(0, .ref (ga X 0))] := hl
  unfold wp_X4_errorPosition at h
  refine lv_aload_n hx hb ddX4_errorPosition_0 rfl (lv_at hl 0 rfl) ?_
  refine get_0_10 hx hb hown ht hK hS lk119 ddX4_errorPosition_1 ?_
  refine lv_iconst (v := (-1 : Int32)) hx hb ddX4_errorPosition_4 (by decide) ?_
  refine lv_icmp_ne (tgt := 19) hx hb ddX4_errorPosition_5 (by decide) (fun c1 => ?_) (fun c1 => ?_)
  · replace h := h.1 c1
    refine lv_aload_n hx hb ddX4_errorPosition_19 rfl (lv_at hl 0 rfl) ?_
    refine get_0_10 hx hb hown ht hK hS lk119 ddX4_errorPosition_20 ?_
    exact kx_iret hx hb hr hlocks hK hS h ddX4_errorPosition_23 ⟨Nat.le_of_ble_eq_true rfl, Nat.le_of_ble_eq_true rfl⟩
  · replace h := h.2 c1
    exact k_thrWN 37 rfl hx hb hfl hown ht hY hK hZ hS h hout hlocks (hl.1.trans hml.symm) ddX4_errorPosition_8 ddX4_errorPosition_11 ddX4_errorPosition_12 ddX4_errorPosition_15 ddX4_errorPosition_18 ⟨Nat.le_of_ble_eq_true rfl, Nat.le_of_ble_eq_true rfl, Nat.le_of_ble_eq_true rfl, Nat.le_of_ble_eq_true rfl⟩ ⟨Nat.le_of_ble_eq_true rfl, Nat.le_of_ble_eq_true rfl⟩

set_option maxHeartbeats 4000000 in
set_option maxRecDepth 100000 in
theorem c_X4_failedCommand (l : Launch) (X : GX) (hfl : l.stackTraces = false) {σ : Mem} {K : Int32 → Mem → Prop} {KX : String → Mem → Prop} (h : wp_X4_failedCommand σ K KX) : XI l X yX4_failedCommand cX4_failedCommand 1 ((Option.some Jvm.ClassFile.FieldType.int)) ({ frames := 6, cells := 1, slots := 6, locals := 90 } : Room) 1 6 [.ref (ga X 0)] σ K KX := by
  refine entX (QQ := fun A => va_Qi K (BW X A) A) (by decide) (Nat.le_of_ble_eq_true rfl) ?_
  intro p e s m args below meth c A ls hx hb hr hlocks hml hown ht hK hZ hA hS hl hY hout
  have hown : s.vm.findClass "GuardRoster" = some m.cls := hown
  have hl : lv_has ls 1 [(0, .ref (ga X 0))] := hl
  unfold wp_X4_failedCommand at h
  refine lv_aload_n hx hb ddX4_failedCommand_0 rfl (lv_at hl 0 rfl) ?_
  refine get_0_11 hx hb hown ht hK hS lk120 ddX4_failedCommand_1 ?_
  refine lv_iconst (v := (-1 : Int32)) hx hb ddX4_failedCommand_4 (by decide) ?_
  refine lv_icmp_ne (tgt := 19) hx hb ddX4_failedCommand_5 (by decide) (fun c1 => ?_) (fun c1 => ?_)
  · replace h := h.1 c1
    refine lv_aload_n hx hb ddX4_failedCommand_19 rfl (lv_at hl 0 rfl) ?_
    refine get_0_11 hx hb hown ht hK hS lk120 ddX4_failedCommand_20 ?_
    exact kx_iret hx hb hr hlocks hK hS h ddX4_failedCommand_23 ⟨Nat.le_of_ble_eq_true rfl, Nat.le_of_ble_eq_true rfl⟩
  · replace h := h.2 c1
    exact k_thrWN 38 rfl hx hb hfl hown ht hY hK hZ hS h hout hlocks (hl.1.trans hml.symm) ddX4_failedCommand_8 ddX4_failedCommand_11 ddX4_failedCommand_12 ddX4_failedCommand_15 ddX4_failedCommand_18 ⟨Nat.le_of_ble_eq_true rfl, Nat.le_of_ble_eq_true rfl, Nat.le_of_ble_eq_true rfl, Nat.le_of_ble_eq_true rfl⟩ ⟨Nat.le_of_ble_eq_true rfl, Nat.le_of_ble_eq_true rfl⟩

set_option maxHeartbeats 4000000 in
set_option maxRecDepth 100000 in
theorem c_X4_undo (l : Launch) (X : GX) (hfl : l.stackTraces = false) {σ : Mem} {K : Int32 → Mem → Prop} {KX : String → Mem → Prop} (h : wp_X4_undo σ K KX) : XI l X yX4_undo cX4_undo 1 ((Option.some Jvm.ClassFile.FieldType.int)) ({ frames := 6, cells := 1, slots := 6, locals := 143 } : Room) 1 6 [.ref (ga X 0)] σ K KX := by
  refine entX (QQ := fun A => va_Qi K (BW X A) A) (by decide) (Nat.le_of_ble_eq_true rfl) ?_
  intro p e s m args below meth c A ls hx hb hr hlocks hml hown ht hK hZ hA hS hl hY hout
  have hown : s.vm.findClass "GuardRoster" = some m.cls := hown
  have hl : lv_has ls 1 [(0, .ref (ga X 0))] := hl
  unfold wp_X4_undo at h
  refine lv_aload_n hx hb ddX4_undo_0 rfl (lv_at hl 0 rfl) ?_
  refine get_0_1 hx hb hown ht hK hS lk110 ddX4_undo_1 ?_
  refine k_VI (As := []) (rest := []) (c_X1_size l X h) mf_X1_size lk380 hx hb hml hown ht hK hZ hS hA 4 2 rfl rfl rfl ⟨rfl, rfl⟩ ⟨Nat.le_of_ble_eq_true rfl, Nat.le_of_ble_eq_true rfl⟩ rfl hl.1 rfl (Nat.le_of_ble_eq_true rfl) ⟨Nat.le_of_ble_eq_true rfl, Nat.le_of_ble_eq_true rfl⟩ ddX4_undo_4 (fun r2 σ1 H locs hS h => ?_)
  refine lv_if_ne (tgt := 21) hx hb ddX4_undo_7 (by decide) (fun c3 => ?_) (fun c3 => ?_)
  · replace h := h.1 c3
    refine lv_aload_n hx hb ddX4_undo_21 rfl (lv_at hl 0 rfl) ?_
    refine get_0_1 hx hb hown ht hK hS lk110 ddX4_undo_22 ?_
    refine lv_aload_n hx hb ddX4_undo_25 rfl (lv_at hl 0 rfl) ?_
    refine get_0_0 hx hb hown ht hK hS lk109 ddX4_undo_26 ?_
    refine k_VV (As := [.ref (ga X 1)]) (rest := []) (c_X1_takeBack l X h) mf_X1_takeBack lk1100 hx hb hml hown ht hK hZ hS hA 4 2 rfl rfl rfl ⟨rfl, rfl⟩ ⟨Nat.le_of_ble_eq_true rfl, Nat.le_of_ble_eq_true rfl⟩ rfl hl.1 rfl (Nat.le_of_ble_eq_true rfl) ⟨Nat.le_of_ble_eq_true rfl, Nat.le_of_ble_eq_true rfl⟩ ddX4_undo_29 (fun σ4 H locs hS h => ?_)
    refine lv_aload_n hx hb ddX4_undo_32 rfl (lv_at hl 0 rfl) ?_
    refine get_0_1 hx hb hown ht hK hS lk110 ddX4_undo_33 ?_
    refine k_VI (As := []) (rest := []) (c_X1_size l X h) mf_X1_size lk380 hx hb hml hown ht hK hZ hS hA 4 2 rfl rfl rfl ⟨rfl, rfl⟩ ⟨Nat.le_of_ble_eq_true rfl, Nat.le_of_ble_eq_true rfl⟩ rfl hl.1 rfl (Nat.le_of_ble_eq_true rfl) ⟨Nat.le_of_ble_eq_true rfl, Nat.le_of_ble_eq_true rfl⟩ ddX4_undo_36 (fun r6 σ5 H locs hS h => ?_)
    exact kx_iret hx hb hr hlocks hK hS h ddX4_undo_39 ⟨Nat.le_of_ble_eq_true rfl, Nat.le_of_ble_eq_true rfl⟩
  · replace h := h.2 c3
    exact k_thrW t_ISE 39 rfl hx hb hfl hown ht hY hK hZ hS h hout hlocks (hl.1.trans hml.symm) ddX4_undo_10 ddX4_undo_13 ddX4_undo_14 ddX4_undo_17 ddX4_undo_20 ⟨Nat.le_of_ble_eq_true rfl, Nat.le_of_ble_eq_true rfl, Nat.le_of_ble_eq_true rfl, Nat.le_of_ble_eq_true rfl⟩ ⟨Nat.le_of_ble_eq_true rfl, Nat.le_of_ble_eq_true rfl⟩

set_option maxHeartbeats 4000000 in
set_option maxRecDepth 100000 in
theorem c_X4_restore (l : Launch) (X : GX) (hfl : l.stackTraces = false) {σ : Mem} {K : Int32 → Mem → Prop} {KX : String → Mem → Prop} (h : wp_X4_restore σ K KX) : XI l X yX4_restore cX4_restore 1 ((Option.some Jvm.ClassFile.FieldType.int)) ({ frames := 6, cells := 1, slots := 6, locals := 101 } : Room) 1 6 [.ref (ga X 0)] σ K KX := by
  refine entX (QQ := fun A => va_Qi K (BW X A) A) (by decide) (Nat.le_of_ble_eq_true rfl) ?_
  intro p e s m args below meth c A ls hx hb hr hlocks hml hown ht hK hZ hA hS hl hY hout
  have hown : s.vm.findClass "GuardRoster" = some m.cls := hown
  have hl : lv_has ls 1 [(0, .ref (ga X 0))] := hl
  unfold wp_X4_restore at h
  refine lv_aload_n hx hb ddX4_restore_0 rfl (lv_at hl 0 rfl) ?_
  refine get_0_5 hx hb hown ht hK hS lk114 ddX4_restore_1 ?_
  refine lv_if_ne (tgt := 18) hx hb ddX4_restore_4 (by decide) (fun c1 => ?_) (fun c1 => ?_)
  · replace h := h.1 c1
    refine lv_aload_n hx hb ddX4_restore_18 rfl (lv_at hl 0 rfl) ?_
    refine get_0_0 hx hb hown ht hK hS lk109 ddX4_restore_19 ?_
    refine lv_aload_n hx hb ddX4_restore_22 rfl (lv_at hl 0 rfl) ?_
    refine get_0_4 hx hb hown ht hK hS lk113 ddX4_restore_23 ?_
    refine k_VV (As := [.ref (ga X 23)]) (rest := []) (c_X2_copyFrom_23 l X h) mf_X2_copyFrom lk1113 hx hb hml hown ht hK hZ hS hA 1 1 rfl rfl rfl ⟨rfl, rfl⟩ ⟨Nat.le_of_ble_eq_true rfl, Nat.le_of_ble_eq_true rfl⟩ rfl hl.1 rfl (Nat.le_of_ble_eq_true rfl) ⟨Nat.le_of_ble_eq_true rfl, Nat.le_of_ble_eq_true rfl⟩ ddX4_restore_26 (fun σ2 H locs hS h => ?_)
    refine lv_aload_n hx hb ddX4_restore_29 rfl (lv_at hl 0 rfl) ?_
    refine get_0_1 hx hb hown ht hK hS lk110 ddX4_restore_30 ?_
    refine k_VV (As := []) (rest := []) (c_X1_forget l X h) mf_X1_forget lk1114 hx hb hml hown ht hK hZ hS hA 4 2 rfl rfl rfl ⟨rfl, rfl⟩ ⟨Nat.le_of_ble_eq_true rfl, Nat.le_of_ble_eq_true rfl⟩ rfl hl.1 rfl (Nat.le_of_ble_eq_true rfl) ⟨Nat.le_of_ble_eq_true rfl, Nat.le_of_ble_eq_true rfl⟩ ddX4_restore_33 (fun σ3 H locs hS h => ?_)
    refine lv_aload_n hx hb ddX4_restore_36 rfl (lv_at hl 0 rfl) ?_
    refine get_0_0 hx hb hown ht hK hS lk109 ddX4_restore_37 ?_
    refine k_VI (As := []) (rest := []) (c_X2_guards l X h) mf_X2_guards lk158 hx hb hml hown ht hK hZ hS hA 1 1 rfl rfl rfl ⟨rfl, rfl⟩ ⟨Nat.le_of_ble_eq_true rfl, Nat.le_of_ble_eq_true rfl⟩ rfl hl.1 rfl (Nat.le_of_ble_eq_true rfl) ⟨Nat.le_of_ble_eq_true rfl, Nat.le_of_ble_eq_true rfl⟩ ddX4_restore_40 (fun r5 σ4 H locs hS h => ?_)
    exact kx_iret hx hb hr hlocks hK hS h ddX4_restore_43 ⟨Nat.le_of_ble_eq_true rfl, Nat.le_of_ble_eq_true rfl⟩
  · replace h := h.2 c1
    exact k_thrW t_ISE 40 rfl hx hb hfl hown ht hY hK hZ hS h hout hlocks (hl.1.trans hml.symm) ddX4_restore_7 ddX4_restore_10 ddX4_restore_11 ddX4_restore_14 ddX4_restore_17 ⟨Nat.le_of_ble_eq_true rfl, Nat.le_of_ble_eq_true rfl, Nat.le_of_ble_eq_true rfl, Nat.le_of_ble_eq_true rfl⟩ ⟨Nat.le_of_ble_eq_true rfl, Nat.le_of_ble_eq_true rfl⟩
