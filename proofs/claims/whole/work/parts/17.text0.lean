set_option maxHeartbeats 4000000 in
set_option maxRecDepth 100000 in
theorem c_X0_isFull (l : Launch) (X : GX) {σ : Mem} {K : Int32 → Mem → Prop} (h : wp_X0_isFull σ K) : MI l X yX0_isFull cX0_isFull 1 ((Option.some Jvm.ClassFile.FieldType.boolean)) ({ frames := 0, cells := 0, slots := 0, locals := 0 } : Room) [.ref (ga X 19)] σ K := by
  refine ent_met (QQ := fun A => va_Qi K (BW X A) A) (by decide) (Nat.le_of_ble_eq_true rfl) ?_
  intro p e s m args below meth c A ls hx hb hr hlocks hml hown ht hK hZ hA hS hl
  have hown : s.vm.findClass "GuardRoster$CommandText" = some m.cls := hown
  have hl : lv_has ls 1 [(0, .ref (ga X 19))] := hl
  unfold wp_X0_isFull at h
  refine lv_aload_n hx hb ddX0_isFull_0 rfl (lv_at hl 0 rfl) ?_
  refine get_19_1 hx hb hown ht hK hS lk90 ddX0_isFull_1 ?_
  refine lv_bipush (v := (60 : Int32)) hx hb ddX0_isFull_4 (by decide) ?_
  refine lv_icmp_lt (tgt := 13) hx hb ddX0_isFull_6 (by decide) (fun c1 => ?_) (fun c1 => ?_)
  · replace h := h.1 c1
    refine lv_iconst (v := (0 : Int32)) hx hb ddX0_isFull_13 (by decide) ?_
    exact k_zret hx hb hr hlocks hK hS rfl h ddX0_isFull_14
  · replace h := h.2 c1
    refine lv_iconst (v := (1 : Int32)) hx hb ddX0_isFull_9 (by decide) ?_
    refine lv_goto (tgt := 14) hx hb ddX0_isFull_10 (by decide) ?_
    exact k_zret hx hb hr hlocks hK hS rfl h ddX0_isFull_14

set_option maxHeartbeats 4000000 in
set_option maxRecDepth 100000 in
theorem c_X0_append (l : Launch) (X : GX) {x1 : Int32} {σ : Mem} {K : Int32 → Mem → Prop} (h : wp_X0_append x1 σ K) : MI l X yX0_append cX0_append 2 ((Option.some Jvm.ClassFile.FieldType.int)) ({ frames := 0, cells := 0, slots := 0, locals := 0 } : Room) [.ref (ga X 19), .int x1] σ K := by
  refine ent_met (QQ := fun A => va_Qi K (BW X A) A) (by decide) (Nat.le_of_ble_eq_true rfl) ?_
  intro p e s m args below meth c A ls hx hb hr hlocks hml hown ht hK hZ hA hS hl
  have hown : s.vm.findClass "GuardRoster$CommandText" = some m.cls := hown
  have hl : lv_has ls 2 [(0, .ref (ga X 19)), (1, .int x1)] := hl
  unfold wp_X0_append at h
  refine lv_aload_n hx hb ddX0_append_0 rfl (lv_at hl 0 rfl) ?_
  refine get_19_1 hx hb hown ht hK hS lk90 ddX0_append_1 ?_
  refine lv_if_lt (tgt := 36) hx hb ddX0_append_4 (by decide) (fun c1 => ?_) (fun c1 => ?_)
  · replace h := h.1 c1
    refine lv_aload_n hx hb ddX0_append_36 rfl (lv_at hl 0 rfl) ?_
    refine get_19_1 hx hb hown ht hK hS lk90 ddX0_append_37 ?_
    exact k_iret hx hb hr hlocks hK hS h ddX0_append_40
  · replace h := h.2 c1
    refine lv_aload_n hx hb ddX0_append_7 rfl (lv_at hl 0 rfl) ?_
    refine get_19_1 hx hb hown ht hK hS lk90 ddX0_append_8 ?_
    refine lv_bipush (v := (60 : Int32)) hx hb ddX0_append_11 (by decide) ?_
    refine lv_icmp_ge (tgt := 36) hx hb ddX0_append_13 (by decide) (fun c2 => ?_) (fun c2 => ?_)
    · replace h := h.1 c2
      refine lv_aload_n hx hb ddX0_append_36 rfl (lv_at hl 0 rfl) ?_
      refine get_19_1 hx hb hown ht hK hS lk90 ddX0_append_37 ?_
      exact k_iret hx hb hr hlocks hK hS h ddX0_append_40
    · replace h := h.2 c2
      refine lv_aload_n hx hb ddX0_append_16 rfl (lv_at hl 0 rfl) ?_
      refine get_19_0 hx hb hown ht hK hS lk89 ddX0_append_17 ?_
      refine lv_aload_n hx hb ddX0_append_20 rfl (lv_at hl 0 rfl) ?_
      refine get_19_1 hx hb hown ht hK hS lk90 ddX0_append_21 ?_
      refine lv_iload_n hx hb ddX0_append_24 rfl (lv_at hl 1 rfl) ?_
      refine ast_20 hx hb hK hS h.1 ddX0_append_25 (fun H locs hS => ?_)
      replace h := h.2
      obtain ⟨σ3, eσ3⟩ : ∃ y : Mem, y = (st σ 20 (σ 19 1).toNatClampNeg (vp_nar .char x1)) := ⟨_, rfl⟩
      rw [← eσ3] at hS
      replace h := h σ3 eσ3
      refine lv_aload_n hx hb ddX0_append_26 rfl (lv_at hl 0 rfl) ?_
      refine lv_dup hx hb ddX0_append_27 rfl ?_
      refine get_19_1 hx hb hown ht hK hS lk90 ddX0_append_28 ?_
      refine lv_iconst (v := (1 : Int32)) hx hb ddX0_append_31 (by decide) ?_
      refine lv_iadd hx hb ddX0_append_32 ?_
      refine put_19_1 hx hb hown ht hK hS lk90 ddX0_append_33 (fun H locs hS => ?_)
      obtain ⟨σ4, eσ4⟩ : ∃ y : Mem, y = (st σ3 19 1 ((σ3 19 1) + (1 : Int32))) := ⟨_, rfl⟩
      rw [← eσ4] at hS
      replace h := h σ4 eσ4
      refine lv_aload_n hx hb ddX0_append_36 rfl (lv_at hl 0 rfl) ?_
      refine get_19_1 hx hb hown ht hK hS lk90 ddX0_append_37 ?_
      exact k_iret hx hb hr hlocks hK hS h ddX0_append_40

set_option maxHeartbeats 4000000 in
set_option maxRecDepth 100000 in
theorem c_X0_empty (l : Launch) (X : GX) {σ : Mem} {K : Mem → Prop} (h : wp_X0_empty σ K) : MV l X yX0_empty cX0_empty 1 ((Option.none : Option Jvm.ClassFile.FieldType)) ({ frames := 0, cells := 0, slots := 0, locals := 0 } : Room) [.ref (ga X 19)] σ K := by
  refine ent_met (QQ := fun A => va_Qv K (BW X A) A) (by decide) (Nat.le_of_ble_eq_true rfl) ?_
  intro p e s m args below meth c A ls hx hb hr hlocks hml hown ht hK hZ hA hS hl
  have hown : s.vm.findClass "GuardRoster$CommandText" = some m.cls := hown
  have hl : lv_has ls 1 [(0, .ref (ga X 19))] := hl
  unfold wp_X0_empty at h
  refine lv_aload_n hx hb ddX0_empty_0 rfl (lv_at hl 0 rfl) ?_
  refine lv_iconst (v := (0 : Int32)) hx hb ddX0_empty_1 (by decide) ?_
  refine put_19_1 hx hb hown ht hK hS lk90 ddX0_empty_2 (fun H locs hS => ?_)
  obtain ⟨σ1, eσ1⟩ : ∃ y : Mem, y = (st σ 19 1 (0 : Int32)) := ⟨_, rfl⟩
  rw [← eσ1] at hS
  replace h := h σ1 eσ1
  exact k_vret hx hb hr hlocks hK hS h ddX0_empty_5

set_option maxHeartbeats 4000000 in
set_option maxRecDepth 100000 in
theorem c_X0_commands (l : Launch) (X : GX) {σ : Mem} {K : Int32 → Mem → Prop} (h : wp_X0_commands σ K) : MI l X yX0_commands cX0_commands 1 ((Option.some Jvm.ClassFile.FieldType.int)) ({ frames := 0, cells := 0, slots := 0, locals := 0 } : Room) [.ref (ga X 19)] σ K := by
  refine ent_met (QQ := fun A => va_Qi K (BW X A) A) (by decide) (Nat.le_of_ble_eq_true rfl) ?_
  intro p e s m args below meth c A ls hx hb hr hlocks hml hown ht hK hZ hA hS hl
  have hown : s.vm.findClass "GuardRoster$CommandText" = some m.cls := hown
  have hl : lv_has ls 1 [(0, .ref (ga X 19))] := hl
  unfold wp_X0_commands at h
  refine lv_aload_n hx hb ddX0_commands_0 rfl (lv_at hl 0 rfl) ?_
  refine get_19_4 hx hb hown ht hK hS lk93 ddX0_commands_1 ?_
  exact k_iret hx hb hr hlocks hK hS h ddX0_commands_4

set_option maxHeartbeats 4000000 in
set_option maxRecDepth 100000 in
theorem c_X0_firstWrong (l : Launch) (X : GX) {σ : Mem} {K : Int32 → Mem → Prop} (h : wp_X0_firstWrong σ K) : MI l X yX0_firstWrong cX0_firstWrong 1 ((Option.some Jvm.ClassFile.FieldType.int)) ({ frames := 0, cells := 0, slots := 0, locals := 0 } : Room) [.ref (ga X 19)] σ K := by
  refine ent_met (QQ := fun A => va_Qi K (BW X A) A) (by decide) (Nat.le_of_ble_eq_true rfl) ?_
  intro p e s m args below meth c A ls hx hb hr hlocks hml hown ht hK hZ hA hS hl
  have hown : s.vm.findClass "GuardRoster$CommandText" = some m.cls := hown
  have hl : lv_has ls 1 [(0, .ref (ga X 19))] := hl
  unfold wp_X0_firstWrong at h
  refine lv_aload_n hx hb ddX0_firstWrong_0 rfl (lv_at hl 0 rfl) ?_
  refine get_19_5 hx hb hown ht hK hS lk94 ddX0_firstWrong_1 ?_
  exact k_iret hx hb hr hlocks hK hS h ddX0_firstWrong_4

set_option maxHeartbeats 4000000 in
set_option maxRecDepth 100000 in
theorem c_X0_kind (l : Launch) (X : GX) {x1 : Int32} {σ : Mem} {K : Int32 → Mem → Prop} (h : wp_X0_kind x1 σ K) : MI l X yX0_kind cX0_kind 2 ((Option.some Jvm.ClassFile.FieldType.int)) ({ frames := 0, cells := 0, slots := 0, locals := 0 } : Room) [.ref (ga X 19), .int x1] σ K := by
  refine ent_met (QQ := fun A => va_Qi K (BW X A) A) (by decide) (Nat.le_of_ble_eq_true rfl) ?_
  intro p e s m args below meth c A ls hx hb hr hlocks hml hown ht hK hZ hA hS hl
  have hown : s.vm.findClass "GuardRoster$CommandText" = some m.cls := hown
  have hl : lv_has ls 2 [(0, .ref (ga X 19)), (1, .int x1)] := hl
  unfold wp_X0_kind at h
  refine lv_iload_n hx hb ddX0_kind_0 rfl (lv_at hl 1 rfl) ?_
  refine lv_if_lt (tgt := 19) hx hb ddX0_kind_1 (by decide) (fun c1 => ?_) (fun c1 => ?_)
  · replace h := h.1 c1
    refine lv_iconst (v := (-1 : Int32)) hx hb ddX0_kind_19 (by decide) ?_
    exact k_iret hx hb hr hlocks hK hS h ddX0_kind_20
  · replace h := h.2 c1
    refine lv_iload_n hx hb ddX0_kind_4 rfl (lv_at hl 1 rfl) ?_
    refine lv_bipush (v := (9 : Int32)) hx hb ddX0_kind_5 (by decide) ?_
    refine lv_icmp_ge (tgt := 19) hx hb ddX0_kind_7 (by decide) (fun c2 => ?_) (fun c2 => ?_)
    · replace h := h.1 c2
      refine lv_iconst (v := (-1 : Int32)) hx hb ddX0_kind_19 (by decide) ?_
      exact k_iret hx hb hr hlocks hK hS h ddX0_kind_20
    · replace h := h.2 c2
      refine lv_aload_n hx hb ddX0_kind_10 rfl (lv_at hl 0 rfl) ?_
      refine get_19_2 hx hb hown ht hK hS lk91 ddX0_kind_11 ?_
      refine lv_iload_n hx hb ddX0_kind_14 rfl (lv_at hl 1 rfl) ?_
      refine ald_21 hx hb hK hS h.1 ddX0_kind_15 ?_
      replace h := h.2
      refine lv_goto (tgt := 20) hx hb ddX0_kind_16 (by decide) ?_
      exact k_iret hx hb hr hlocks hK hS h ddX0_kind_20

set_option maxHeartbeats 4000000 in
set_option maxRecDepth 100000 in
theorem c_X0_value (l : Launch) (X : GX) {x1 x2 : Int32} {σ : Mem} {K : Int32 → Mem → Prop} (h : wp_X0_value x1 x2 σ K) : MI l X yX0_value cX0_value 4 ((Option.some Jvm.ClassFile.FieldType.int)) ({ frames := 0, cells := 0, slots := 0, locals := 0 } : Room) [.ref (ga X 19), .int x1, .int x2] σ K := by
  refine ent_met (QQ := fun A => va_Qi K (BW X A) A) (by decide) (Nat.le_of_ble_eq_true rfl) ?_
  intro p e s m args below meth c A ls hx hb hr hlocks hml hown ht hK hZ hA hS hl
  have hown : s.vm.findClass "GuardRoster$CommandText" = some m.cls := hown
  have hl : lv_has ls 4 [(0, .ref (ga X 19)), (1, .int x1), (2, .int x2)] := hl
  unfold wp_X0_value at h
  refine lv_iload_n hx hb ddX0_value_0 rfl (lv_at hl 1 rfl) ?_
  refine lv_iconst (v := (3 : Int32)) hx hb ddX0_value_1 (by decide) ?_
  refine lv_imul hx hb ddX0_value_2 ?_
  refine lv_iload_n hx hb ddX0_value_3 rfl (lv_at hl 2 rfl) ?_
  refine lv_iadd hx hb ddX0_value_4 ?_
  refine lv_topi (fun v1 ev1 => ?_)
  replace h := h v1 ev1
  refine lv_istore_n (lv' := [(3, .int v1), (0, .ref (ga X 19)), (1, .int x1), (2, .int x2)]) hx hb ddX0_value_5 rfl hl (by decide) rfl (fun ls hl => ?_)
  refine lv_iload_n hx hb ddX0_value_6 rfl (lv_at hl 0 rfl) ?_
  refine lv_if_lt (tgt := 28) hx hb ddX0_value_7 (by decide) (fun c2 => ?_) (fun c2 => ?_)
  · replace h := h.1 c2
    refine lv_iconst (v := (0 : Int32)) hx hb ddX0_value_28 (by decide) ?_
    exact k_iret hx hb hr hlocks hK hS h ddX0_value_29
  · replace h := h.2 c2
    refine lv_iload_n hx hb ddX0_value_10 rfl (lv_at hl 0 rfl) ?_
    refine lv_aload_n hx hb ddX0_value_11 rfl (lv_at hl 1 rfl) ?_
    refine get_19_3 hx hb hown ht hK hS lk92 ddX0_value_12 ?_
    refine aln_22 hx hb hK hS ddX0_value_15 ?_
    refine lv_icmp_ge (tgt := 28) hx hb ddX0_value_16 (by decide) (fun c3 => ?_) (fun c3 => ?_)
    · replace h := h.1 c3
      refine lv_iconst (v := (0 : Int32)) hx hb ddX0_value_28 (by decide) ?_
      exact k_iret hx hb hr hlocks hK hS h ddX0_value_29
    · replace h := h.2 c3
      refine lv_aload_n hx hb ddX0_value_19 rfl (lv_at hl 1 rfl) ?_
      refine get_19_3 hx hb hown ht hK hS lk92 ddX0_value_20 ?_
      refine lv_iload_n hx hb ddX0_value_23 rfl (lv_at hl 0 rfl) ?_
      refine ald_22 hx hb hK hS h.1 ddX0_value_24 ?_
      replace h := h.2
      refine lv_goto (tgt := 29) hx hb ddX0_value_25 (by decide) ?_
      exact k_iret hx hb hr hlocks hK hS h ddX0_value_29

set_option maxHeartbeats 4000000 in
set_option maxRecDepth 100000 in
theorem c_X0_isDigit (l : Launch) (X : GX) {x0 : Int32} {σ : Mem} {K : Int32 → Mem → Prop} (h : wp_X0_isDigit x0 σ K) : MI l X yX0_isDigit cX0_isDigit 1 ((Option.some Jvm.ClassFile.FieldType.boolean)) ({ frames := 0, cells := 0, slots := 0, locals := 0 } : Room) [.int x0] σ K := by
  refine ent_met (QQ := fun A => va_Qi K (BW X A) A) (by decide) (Nat.le_of_ble_eq_true rfl) ?_
  intro p e s m args below meth c A ls hx hb hr hlocks hml hown ht hK hZ hA hS hl
  have hown : s.vm.findClass "GuardRoster$CommandText" = some m.cls := hown
  have hl : lv_has ls 1 [(0, .int x0)] := hl
  unfold wp_X0_isDigit at h
  refine lv_iload_n hx hb ddX0_isDigit_0 rfl (lv_at hl 0 rfl) ?_
  refine lv_bipush (v := (48 : Int32)) hx hb ddX0_isDigit_1 (by decide) ?_
  refine lv_icmp_lt (tgt := 16) hx hb ddX0_isDigit_3 (by decide) (fun c1 => ?_) (fun c1 => ?_)
  · replace h := h.1 c1
    refine lv_iconst (v := (0 : Int32)) hx hb ddX0_isDigit_16 (by decide) ?_
    exact k_zret hx hb hr hlocks hK hS rfl h ddX0_isDigit_17
  · replace h := h.2 c1
    refine lv_iload_n hx hb ddX0_isDigit_6 rfl (lv_at hl 0 rfl) ?_
    refine lv_bipush (v := (57 : Int32)) hx hb ddX0_isDigit_7 (by decide) ?_
    refine lv_icmp_gt (tgt := 16) hx hb ddX0_isDigit_9 (by decide) (fun c2 => ?_) (fun c2 => ?_)
    · replace h := h.1 c2
      refine lv_iconst (v := (0 : Int32)) hx hb ddX0_isDigit_16 (by decide) ?_
      exact k_zret hx hb hr hlocks hK hS rfl h ddX0_isDigit_17
    · replace h := h.2 c2
      refine lv_iconst (v := (1 : Int32)) hx hb ddX0_isDigit_12 (by decide) ?_
      refine lv_goto (tgt := 17) hx hb ddX0_isDigit_13 (by decide) ?_
      exact k_zret hx hb hr hlocks hK hS rfl h ddX0_isDigit_17

set_option maxHeartbeats 4000000 in
set_option maxRecDepth 100000 in
theorem c_X0_characterAt (l : Launch) (X : GX) {x1 : Int32} {σ : Mem} {K : Int32 → Mem → Prop} (h : wp_X0_characterAt x1 σ K) : MI l X yX0_characterAt cX0_characterAt 2 ((Option.some Jvm.ClassFile.FieldType.int)) ({ frames := 0, cells := 0, slots := 0, locals := 0 } : Room) [.ref (ga X 19), .int x1] σ K := by
  refine ent_met (QQ := fun A => va_Qi K (BW X A) A) (by decide) (Nat.le_of_ble_eq_true rfl) ?_
  intro p e s m args below meth c A ls hx hb hr hlocks hml hown ht hK hZ hA hS hl
  have hown : s.vm.findClass "GuardRoster$CommandText" = some m.cls := hown
  have hl : lv_has ls 2 [(0, .ref (ga X 19)), (1, .int x1)] := hl
  unfold wp_X0_characterAt at h
  refine lv_iload_n hx hb ddX0_characterAt_0 rfl (lv_at hl 1 rfl) ?_
  refine lv_if_lt (tgt := 27) hx hb ddX0_characterAt_1 (by decide) (fun c1 => ?_) (fun c1 => ?_)
  · replace h := h.1 c1
    refine lv_iconst (v := (-1 : Int32)) hx hb ddX0_characterAt_27 (by decide) ?_
    exact k_iret hx hb hr hlocks hK hS h ddX0_characterAt_28
  · replace h := h.2 c1
    refine lv_iload_n hx hb ddX0_characterAt_4 rfl (lv_at hl 1 rfl) ?_
    refine lv_aload_n hx hb ddX0_characterAt_5 rfl (lv_at hl 0 rfl) ?_
    refine get_19_1 hx hb hown ht hK hS lk90 ddX0_characterAt_6 ?_
    refine lv_icmp_ge (tgt := 27) hx hb ddX0_characterAt_9 (by decide) (fun c2 => ?_) (fun c2 => ?_)
    · replace h := h.1 c2
      refine lv_iconst (v := (-1 : Int32)) hx hb ddX0_characterAt_27 (by decide) ?_
      exact k_iret hx hb hr hlocks hK hS h ddX0_characterAt_28
    · replace h := h.2 c2
      refine lv_iload_n hx hb ddX0_characterAt_12 rfl (lv_at hl 1 rfl) ?_
      refine lv_bipush (v := (60 : Int32)) hx hb ddX0_characterAt_13 (by decide) ?_
      refine lv_icmp_ge (tgt := 27) hx hb ddX0_characterAt_15 (by decide) (fun c3 => ?_) (fun c3 => ?_)
      · replace h := h.1 c3
        refine lv_iconst (v := (-1 : Int32)) hx hb ddX0_characterAt_27 (by decide) ?_
        exact k_iret hx hb hr hlocks hK hS h ddX0_characterAt_28
      · replace h := h.2 c3
        refine lv_aload_n hx hb ddX0_characterAt_18 rfl (lv_at hl 0 rfl) ?_
        refine get_19_0 hx hb hown ht hK hS lk89 ddX0_characterAt_19 ?_
        refine lv_iload_n hx hb ddX0_characterAt_22 rfl (lv_at hl 1 rfl) ?_
        refine ald_20 hx hb hK hS h.1 ddX0_characterAt_23 ?_
        replace h := h.2
        refine lv_goto (tgt := 28) hx hb ddX0_characterAt_24 (by decide) ?_
        exact k_iret hx hb hr hlocks hK hS h ddX0_characterAt_28

set_option maxHeartbeats 4000000 in
set_option maxRecDepth 100000 in
theorem c_X0_keepValue (l : Launch) (X : GX) {x1 x2 : Int32} {σ : Mem} {K : Mem → Prop} (h : wp_X0_keepValue x1 x2 σ K) : MV l X yX0_keepValue cX0_keepValue 4 ((Option.none : Option Jvm.ClassFile.FieldType)) ({ frames := 0, cells := 0, slots := 0, locals := 0 } : Room) [.ref (ga X 19), .int x1, .int x2] σ K := by
  refine ent_met (QQ := fun A => va_Qv K (BW X A) A) (by decide) (Nat.le_of_ble_eq_true rfl) ?_
  intro p e s m args below meth c A ls hx hb hr hlocks hml hown ht hK hZ hA hS hl
  have hown : s.vm.findClass "GuardRoster$CommandText" = some m.cls := hown
  have hl : lv_has ls 4 [(0, .ref (ga X 19)), (1, .int x1), (2, .int x2)] := hl
  unfold wp_X0_keepValue at h
  refine lv_aload_n hx hb ddX0_keepValue_0 rfl (lv_at hl 0 rfl) ?_
  refine get_19_4 hx hb hown ht hK hS lk93 ddX0_keepValue_1 ?_
  refine lv_iconst (v := (3 : Int32)) hx hb ddX0_keepValue_4 (by decide) ?_
  refine lv_imul hx hb ddX0_keepValue_5 ?_
  refine lv_iload_n hx hb ddX0_keepValue_6 rfl (lv_at hl 1 rfl) ?_
  refine lv_iadd hx hb ddX0_keepValue_7 ?_
  refine lv_topi (fun v1 ev1 => ?_)
  replace h := h v1 ev1
  refine lv_istore_n (lv' := [(3, .int v1), (0, .ref (ga X 19)), (1, .int x1), (2, .int x2)]) hx hb ddX0_keepValue_8 rfl hl (by decide) rfl (fun ls hl => ?_)
  refine lv_iload_n hx hb ddX0_keepValue_9 rfl (lv_at hl 0 rfl) ?_
  refine lv_if_lt (tgt := 29) hx hb ddX0_keepValue_10 (by decide) (fun c2 => ?_) (fun c2 => ?_)
  · replace h := h.1 c2
    exact k_vret hx hb hr hlocks hK hS h ddX0_keepValue_29
  · replace h := h.2 c2
    refine lv_iload_n hx hb ddX0_keepValue_13 rfl (lv_at hl 0 rfl) ?_
    refine lv_aload_n hx hb ddX0_keepValue_14 rfl (lv_at hl 1 rfl) ?_
    refine get_19_3 hx hb hown ht hK hS lk92 ddX0_keepValue_15 ?_
    refine aln_22 hx hb hK hS ddX0_keepValue_18 ?_
    refine lv_icmp_ge (tgt := 29) hx hb ddX0_keepValue_19 (by decide) (fun c3 => ?_) (fun c3 => ?_)
    · replace h := h.1 c3
      exact k_vret hx hb hr hlocks hK hS h ddX0_keepValue_29
    · replace h := h.2 c3
      refine lv_aload_n hx hb ddX0_keepValue_22 rfl (lv_at hl 1 rfl) ?_
      refine get_19_3 hx hb hown ht hK hS lk92 ddX0_keepValue_23 ?_
      refine lv_iload_n hx hb ddX0_keepValue_26 rfl (lv_at hl 0 rfl) ?_
      refine lv_iload_n hx hb ddX0_keepValue_27 rfl (lv_at hl 3 rfl) ?_
      refine ast_22 hx hb hK hS h.1 ddX0_keepValue_28 (fun H locs hS => ?_)
      replace h := h.2
      obtain ⟨σ4, eσ4⟩ : ∃ y : Mem, y = (st σ 22 v1.toNatClampNeg x2) := ⟨_, rfl⟩
      rw [← eσ4] at hS
      replace h := h σ4 eσ4
      exact k_vret hx hb hr hlocks hK hS h ddX0_keepValue_29
