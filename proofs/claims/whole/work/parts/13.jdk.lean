set_option maxHeartbeats 4000000 in
set_option maxRecDepth 100000 in
theorem c_J6_numberOfTrailingZeros_0f7a4 (l : Launch) (X : GX) {x0 : Int32} {σ : Mem} {K : Int32 → Mem → Prop} (h : wp_J6_numberOfTrailingZeros_0f7a4 x0 σ K) : MI l X yJ6_numberOfTrailingZeros_0f7a4 cJ6_numberOfTrailingZeros_0f7a4 2 ((Option.some Jvm.ClassFile.FieldType.int)) ({ frames := 0, cells := 0, slots := 0, locals := 0 } : Room) [.int x0] σ K := by
  refine ent_met (QQ := fun A => va_Qi K (BW X A) A) (by decide) (Nat.le_of_ble_eq_true rfl) ?_
  intro p e s m args below meth c A ls hx hb hr hlocks hml hown ht hK hZ hA hS hl
  have hown : s.vm.findClass "java/lang/Integer" = some m.cls := hown
  have hl : lv_has ls 2 [(0, .int x0)] := hl
  have hJ74 : ∀ (x0 x1 : Int32) (σ : Mem) (H : Heap) (locs : List Loc) (ls : Array Slot), WS X A s.heap σ H locs → lv_has ls 2 [(0, .int x0), (1, .int x1)] → wpJ_J6_numberOfTrailingZeros_0f7a4_74 K x0 x1 σ → WI X K p l e ({ frames := 0, cells := 0, slots := 0, locals := 0 } : Room) s m args below meth c A H locs (F0 m 74 ls []) := by
    intro x0 x1 σ H locs ls hS hl h
    unfold wpJ_J6_numberOfTrailingZeros_0f7a4_74 at h
    refine lv_iload_n hx hb ddJ6_numberOfTrailingZeros_0f7a4_74 rfl (lv_at hl 1 rfl) ?_
    refine lv_iload_n hx hb ddJ6_numberOfTrailingZeros_0f7a4_75 rfl (lv_at hl 0 rfl) ?_
    refine lv_iconst (v := (1 : Int32)) hx hb ddJ6_numberOfTrailingZeros_0f7a4_76 (by decide) ?_
    refine lv_iushr hx hb ddJ6_numberOfTrailingZeros_0f7a4_77 rfl ?_
    refine lv_iadd hx hb ddJ6_numberOfTrailingZeros_0f7a4_78 ?_
    exact k_iret hx hb hr hlocks hK hS h ddJ6_numberOfTrailingZeros_0f7a4_79
  have hJ62 : ∀ (x0 x1 : Int32) (σ : Mem) (H : Heap) (locs : List Loc) (ls : Array Slot), WS X A s.heap σ H locs → lv_has ls 2 [(0, .int x0), (1, .int x1)] → wpJ_J6_numberOfTrailingZeros_0f7a4_62 K x0 x1 σ → WI X K p l e ({ frames := 0, cells := 0, slots := 0, locals := 0 } : Room) s m args below meth c A H locs (F0 m 62 ls []) := by
    intro x0 x1 σ H locs ls hS hl h
    unfold wpJ_J6_numberOfTrailingZeros_0f7a4_62 at h
    refine lv_iload_n hx hb ddJ6_numberOfTrailingZeros_0f7a4_62 rfl (lv_at hl 0 rfl) ?_
    refine lv_iconst (v := (4 : Int32)) hx hb ddJ6_numberOfTrailingZeros_0f7a4_63 (by decide) ?_
    refine lv_icmp_le (tgt := 74) hx hb ddJ6_numberOfTrailingZeros_0f7a4_64 (by decide) (fun c6 => ?_) (fun c6 => ?_)
    · replace h := h.1 c6
      exact hJ74 _ _ _ _ _ _ hS (lv_sub hl [0, 1] rfl) h
    · replace h := h.2 c6
      obtain ⟨v7, ev7⟩ : ∃ y : Int32, y = x1 + (2 : Int32) := ⟨_, rfl⟩
      replace h := h v7 ev7
      refine lv_iinc (v := v7) (lv' := [(1, .int v7), (0, .int x0)]) hx hb ddJ6_numberOfTrailingZeros_0f7a4_67 hl (k := 1) rfl (by rw [ev7]; rfl) (by decide) rfl (fun ls hl => ?_)
      refine lv_iload_n hx hb ddJ6_numberOfTrailingZeros_0f7a4_70 rfl (lv_at hl 1 rfl) ?_
      refine lv_iconst (v := (2 : Int32)) hx hb ddJ6_numberOfTrailingZeros_0f7a4_71 (by decide) ?_
      refine lv_iushr hx hb ddJ6_numberOfTrailingZeros_0f7a4_72 rfl ?_
      refine lv_topi (fun v8 ev8 => ?_)
      replace h := h v8 ev8
      refine lv_istore_n (lv' := [(0, .int v8), (1, .int v7)]) hx hb ddJ6_numberOfTrailingZeros_0f7a4_73 rfl hl (by decide) rfl (fun ls hl => ?_)
      exact hJ74 _ _ _ _ _ _ hS (lv_sub hl [0, 1] rfl) h
  have hJ49 : ∀ (x0 x1 : Int32) (σ : Mem) (H : Heap) (locs : List Loc) (ls : Array Slot), WS X A s.heap σ H locs → lv_has ls 2 [(0, .int x0), (1, .int x1)] → wpJ_J6_numberOfTrailingZeros_0f7a4_49 K x0 x1 σ → WI X K p l e ({ frames := 0, cells := 0, slots := 0, locals := 0 } : Room) s m args below meth c A H locs (F0 m 49 ls []) := by
    intro x0 x1 σ H locs ls hS hl h
    unfold wpJ_J6_numberOfTrailingZeros_0f7a4_49 at h
    refine lv_iload_n hx hb ddJ6_numberOfTrailingZeros_0f7a4_49 rfl (lv_at hl 0 rfl) ?_
    refine lv_bipush (v := (16 : Int32)) hx hb ddJ6_numberOfTrailingZeros_0f7a4_50 (by decide) ?_
    refine lv_icmp_le (tgt := 62) hx hb ddJ6_numberOfTrailingZeros_0f7a4_52 (by decide) (fun c5 => ?_) (fun c5 => ?_)
    · replace h := h.1 c5
      exact hJ62 _ _ _ _ _ _ hS (lv_sub hl [0, 1] rfl) h
    · replace h := h.2 c5
      obtain ⟨v9, ev9⟩ : ∃ y : Int32, y = x1 + (4 : Int32) := ⟨_, rfl⟩
      replace h := h v9 ev9
      refine lv_iinc (v := v9) (lv' := [(1, .int v9), (0, .int x0)]) hx hb ddJ6_numberOfTrailingZeros_0f7a4_55 hl (k := 1) rfl (by rw [ev9]; rfl) (by decide) rfl (fun ls hl => ?_)
      refine lv_iload_n hx hb ddJ6_numberOfTrailingZeros_0f7a4_58 rfl (lv_at hl 1 rfl) ?_
      refine lv_iconst (v := (4 : Int32)) hx hb ddJ6_numberOfTrailingZeros_0f7a4_59 (by decide) ?_
      refine lv_iushr hx hb ddJ6_numberOfTrailingZeros_0f7a4_60 rfl ?_
      refine lv_topi (fun v10 ev10 => ?_)
      replace h := h v10 ev10
      refine lv_istore_n (lv' := [(0, .int v10), (1, .int v9)]) hx hb ddJ6_numberOfTrailingZeros_0f7a4_61 rfl hl (by decide) rfl (fun ls hl => ?_)
      exact hJ62 _ _ _ _ _ _ hS (lv_sub hl [0, 1] rfl) h
  have hJ34 : ∀ (x0 x1 : Int32) (σ : Mem) (H : Heap) (locs : List Loc) (ls : Array Slot), WS X A s.heap σ H locs → lv_has ls 2 [(0, .int x0), (1, .int x1)] → wpJ_J6_numberOfTrailingZeros_0f7a4_34 K x0 x1 σ → WI X K p l e ({ frames := 0, cells := 0, slots := 0, locals := 0 } : Room) s m args below meth c A H locs (F0 m 34 ls []) := by
    intro x0 x1 σ H locs ls hS hl h
    unfold wpJ_J6_numberOfTrailingZeros_0f7a4_34 at h
    refine lv_iload_n hx hb ddJ6_numberOfTrailingZeros_0f7a4_34 rfl (lv_at hl 0 rfl) ?_
    refine lv_sipush (v := (256 : Int32)) hx hb ddJ6_numberOfTrailingZeros_0f7a4_35 (by decide) ?_
    refine lv_icmp_le (tgt := 49) hx hb ddJ6_numberOfTrailingZeros_0f7a4_38 (by decide) (fun c4 => ?_) (fun c4 => ?_)
    · replace h := h.1 c4
      exact hJ49 _ _ _ _ _ _ hS (lv_sub hl [0, 1] rfl) h
    · replace h := h.2 c4
      obtain ⟨v11, ev11⟩ : ∃ y : Int32, y = x1 + (8 : Int32) := ⟨_, rfl⟩
      replace h := h v11 ev11
      refine lv_iinc (v := v11) (lv' := [(1, .int v11), (0, .int x0)]) hx hb ddJ6_numberOfTrailingZeros_0f7a4_41 hl (k := 1) rfl (by rw [ev11]; rfl) (by decide) rfl (fun ls hl => ?_)
      refine lv_iload_n hx hb ddJ6_numberOfTrailingZeros_0f7a4_44 rfl (lv_at hl 1 rfl) ?_
      refine lv_bipush (v := (8 : Int32)) hx hb ddJ6_numberOfTrailingZeros_0f7a4_45 (by decide) ?_
      refine lv_iushr hx hb ddJ6_numberOfTrailingZeros_0f7a4_47 rfl ?_
      refine lv_topi (fun v12 ev12 => ?_)
      replace h := h v12 ev12
      refine lv_istore_n (lv' := [(0, .int v12), (1, .int v11)]) hx hb ddJ6_numberOfTrailingZeros_0f7a4_48 rfl hl (by decide) rfl (fun ls hl => ?_)
      exact hJ49 _ _ _ _ _ _ hS (lv_sub hl [0, 1] rfl) h
  unfold wp_J6_numberOfTrailingZeros_0f7a4 at h
  refine lv_iload_n hx hb ddJ6_numberOfTrailingZeros_0f7a4_0 rfl (lv_at hl 0 rfl) ?_
  refine lv_iconst (v := (-1 : Int32)) hx hb ddJ6_numberOfTrailingZeros_0f7a4_1 (by decide) ?_
  refine lv_ixor hx hb ddJ6_numberOfTrailingZeros_0f7a4_2 ?_
  refine lv_iload_n hx hb ddJ6_numberOfTrailingZeros_0f7a4_3 rfl (lv_at hl 0 rfl) ?_
  refine lv_iconst (v := (1 : Int32)) hx hb ddJ6_numberOfTrailingZeros_0f7a4_4 (by decide) ?_
  refine lv_isub hx hb ddJ6_numberOfTrailingZeros_0f7a4_5 ?_
  refine lv_iand hx hb ddJ6_numberOfTrailingZeros_0f7a4_6 ?_
  refine lv_topi (fun v1 ev1 => ?_)
  replace h := h v1 ev1
  refine lv_istore_n (lv' := [(0, .int v1)]) hx hb ddJ6_numberOfTrailingZeros_0f7a4_7 rfl hl (by decide) rfl (fun ls hl => ?_)
  refine lv_iload_n hx hb ddJ6_numberOfTrailingZeros_0f7a4_8 rfl (lv_at hl 0 rfl) ?_
  refine lv_if_gt (tgt := 17) hx hb ddJ6_numberOfTrailingZeros_0f7a4_9 (by decide) (fun c2 => ?_) (fun c2 => ?_)
  · replace h := h.1 c2
    refine lv_iconst (v := (1 : Int32)) hx hb ddJ6_numberOfTrailingZeros_0f7a4_17 (by decide) ?_
    refine lv_istore_n (lv' := [(1, .int (1 : Int32)), (0, .int v1)]) hx hb ddJ6_numberOfTrailingZeros_0f7a4_18 rfl hl (by decide) rfl (fun ls hl => ?_)
    refine lv_iload_n hx hb ddJ6_numberOfTrailingZeros_0f7a4_19 rfl (lv_at hl 1 rfl) ?_
    refine lv_ldcw (v := (65536 : Int32)) hx hb hown (ht _ lk363) ddJ6_numberOfTrailingZeros_0f7a4_20 ?_
    refine lv_icmp_le (tgt := 34) hx hb ddJ6_numberOfTrailingZeros_0f7a4_23 (by decide) (fun c3 => ?_) (fun c3 => ?_)
    · replace h := h.1 c3
      exact hJ34 _ _ _ _ _ _ hS (lv_sub hl [1, 0] rfl) h
    · replace h := h.2 c3
      obtain ⟨v13, ev13⟩ : ∃ y : Int32, y = (1 : Int32) + (16 : Int32) := ⟨_, rfl⟩
      replace h := h v13 ev13
      refine lv_iinc (v := v13) (lv' := [(1, .int v13), (0, .int v1)]) hx hb ddJ6_numberOfTrailingZeros_0f7a4_26 hl (k := 0) rfl (by rw [ev13]; rfl) (by decide) rfl (fun ls hl => ?_)
      refine lv_iload_n hx hb ddJ6_numberOfTrailingZeros_0f7a4_29 rfl (lv_at hl 1 rfl) ?_
      refine lv_bipush (v := (16 : Int32)) hx hb ddJ6_numberOfTrailingZeros_0f7a4_30 (by decide) ?_
      refine lv_iushr hx hb ddJ6_numberOfTrailingZeros_0f7a4_32 rfl ?_
      refine lv_topi (fun v14 ev14 => ?_)
      replace h := h v14 ev14
      refine lv_istore_n (lv' := [(0, .int v14), (1, .int v13)]) hx hb ddJ6_numberOfTrailingZeros_0f7a4_33 rfl hl (by decide) rfl (fun ls hl => ?_)
      exact hJ34 _ _ _ _ _ _ hS (lv_sub hl [0, 1] rfl) h
  · replace h := h.2 c2
    refine lv_iload_n hx hb ddJ6_numberOfTrailingZeros_0f7a4_12 rfl (lv_at hl 0 rfl) ?_
    refine lv_bipush (v := (32 : Int32)) hx hb ddJ6_numberOfTrailingZeros_0f7a4_13 (by decide) ?_
    refine lv_iand hx hb ddJ6_numberOfTrailingZeros_0f7a4_15 ?_
    exact k_iret hx hb hr hlocks hK hS h ddJ6_numberOfTrailingZeros_0f7a4_16

set_option maxHeartbeats 4000000 in
set_option maxRecDepth 100000 in
theorem c_J6_bitCount_0f7a4 (l : Launch) (X : GX) {x0 : Int32} {σ : Mem} {K : Int32 → Mem → Prop} (h : wp_J6_bitCount_0f7a4 x0 σ K) : MI l X yJ6_bitCount_0f7a4 cJ6_bitCount_0f7a4 1 ((Option.some Jvm.ClassFile.FieldType.int)) ({ frames := 0, cells := 0, slots := 0, locals := 0 } : Room) [.int x0] σ K := by
  refine ent_met (QQ := fun A => va_Qi K (BW X A) A) (by decide) (Nat.le_of_ble_eq_true rfl) ?_
  intro p e s m args below meth c A ls hx hb hr hlocks hml hown ht hK hZ hA hS hl
  have hown : s.vm.findClass "java/lang/Integer" = some m.cls := hown
  have hl : lv_has ls 1 [(0, .int x0)] := hl
  unfold wp_J6_bitCount_0f7a4 at h
  refine lv_iload_n hx hb ddJ6_bitCount_0f7a4_0 rfl (lv_at hl 0 rfl) ?_
  refine lv_iload_n hx hb ddJ6_bitCount_0f7a4_1 rfl (lv_at hl 0 rfl) ?_
  refine lv_iconst (v := (1 : Int32)) hx hb ddJ6_bitCount_0f7a4_2 (by decide) ?_
  refine lv_iushr hx hb ddJ6_bitCount_0f7a4_3 rfl ?_
  refine lv_ldcw (v := (1431655765 : Int32)) hx hb hown (ht _ lk367) ddJ6_bitCount_0f7a4_4 ?_
  refine lv_iand hx hb ddJ6_bitCount_0f7a4_7 ?_
  refine lv_isub hx hb ddJ6_bitCount_0f7a4_8 ?_
  refine lv_topi (fun v1 ev1 => ?_)
  replace h := h v1 ev1
  refine lv_istore_n (lv' := [(0, .int v1)]) hx hb ddJ6_bitCount_0f7a4_9 rfl hl (by decide) rfl (fun ls hl => ?_)
  refine lv_iload_n hx hb ddJ6_bitCount_0f7a4_10 rfl (lv_at hl 0 rfl) ?_
  refine lv_ldcw (v := (858993459 : Int32)) hx hb hown (ht _ lk368) ddJ6_bitCount_0f7a4_11 ?_
  refine lv_iand hx hb ddJ6_bitCount_0f7a4_14 ?_
  refine lv_iload_n hx hb ddJ6_bitCount_0f7a4_15 rfl (lv_at hl 0 rfl) ?_
  refine lv_iconst (v := (2 : Int32)) hx hb ddJ6_bitCount_0f7a4_16 (by decide) ?_
  refine lv_iushr hx hb ddJ6_bitCount_0f7a4_17 rfl ?_
  refine lv_ldcw (v := (858993459 : Int32)) hx hb hown (ht _ lk368) ddJ6_bitCount_0f7a4_18 ?_
  refine lv_iand hx hb ddJ6_bitCount_0f7a4_21 ?_
  refine lv_iadd hx hb ddJ6_bitCount_0f7a4_22 ?_
  refine lv_topi (fun v2 ev2 => ?_)
  replace h := h v2 ev2
  refine lv_istore_n (lv' := [(0, .int v2)]) hx hb ddJ6_bitCount_0f7a4_23 rfl hl (by decide) rfl (fun ls hl => ?_)
  refine lv_iload_n hx hb ddJ6_bitCount_0f7a4_24 rfl (lv_at hl 0 rfl) ?_
  refine lv_iload_n hx hb ddJ6_bitCount_0f7a4_25 rfl (lv_at hl 0 rfl) ?_
  refine lv_iconst (v := (4 : Int32)) hx hb ddJ6_bitCount_0f7a4_26 (by decide) ?_
  refine lv_iushr hx hb ddJ6_bitCount_0f7a4_27 rfl ?_
  refine lv_iadd hx hb ddJ6_bitCount_0f7a4_28 ?_
  refine lv_ldcw (v := (252645135 : Int32)) hx hb hown (ht _ lk369) ddJ6_bitCount_0f7a4_29 ?_
  refine lv_iand hx hb ddJ6_bitCount_0f7a4_32 ?_
  refine lv_topi (fun v3 ev3 => ?_)
  replace h := h v3 ev3
  refine lv_istore_n (lv' := [(0, .int v3)]) hx hb ddJ6_bitCount_0f7a4_33 rfl hl (by decide) rfl (fun ls hl => ?_)
  refine lv_iload_n hx hb ddJ6_bitCount_0f7a4_34 rfl (lv_at hl 0 rfl) ?_
  refine lv_iload_n hx hb ddJ6_bitCount_0f7a4_35 rfl (lv_at hl 0 rfl) ?_
  refine lv_bipush (v := (8 : Int32)) hx hb ddJ6_bitCount_0f7a4_36 (by decide) ?_
  refine lv_iushr hx hb ddJ6_bitCount_0f7a4_38 rfl ?_
  refine lv_iadd hx hb ddJ6_bitCount_0f7a4_39 ?_
  refine lv_topi (fun v4 ev4 => ?_)
  replace h := h v4 ev4
  refine lv_istore_n (lv' := [(0, .int v4)]) hx hb ddJ6_bitCount_0f7a4_40 rfl hl (by decide) rfl (fun ls hl => ?_)
  refine lv_iload_n hx hb ddJ6_bitCount_0f7a4_41 rfl (lv_at hl 0 rfl) ?_
  refine lv_iload_n hx hb ddJ6_bitCount_0f7a4_42 rfl (lv_at hl 0 rfl) ?_
  refine lv_bipush (v := (16 : Int32)) hx hb ddJ6_bitCount_0f7a4_43 (by decide) ?_
  refine lv_iushr hx hb ddJ6_bitCount_0f7a4_45 rfl ?_
  refine lv_iadd hx hb ddJ6_bitCount_0f7a4_46 ?_
  refine lv_topi (fun v5 ev5 => ?_)
  replace h := h v5 ev5
  refine lv_istore_n (lv' := [(0, .int v5)]) hx hb ddJ6_bitCount_0f7a4_47 rfl hl (by decide) rfl (fun ls hl => ?_)
  refine lv_iload_n hx hb ddJ6_bitCount_0f7a4_48 rfl (lv_at hl 0 rfl) ?_
  refine lv_bipush (v := (63 : Int32)) hx hb ddJ6_bitCount_0f7a4_49 (by decide) ?_
  refine lv_iand hx hb ddJ6_bitCount_0f7a4_51 ?_
  exact k_iret hx hb hr hlocks hK hS h ddJ6_bitCount_0f7a4_52
