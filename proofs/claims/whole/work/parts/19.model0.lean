set_option maxHeartbeats 4000000 in
set_option maxRecDepth 100000 in
theorem c_X5_thrown (l : Launch) (X : GX) {σ : Mem} {K : Int32 → Mem → Prop} (h : wp_X5_thrown σ K) : MI l X yX5_thrown cX5_thrown 1 ((Option.some Jvm.ClassFile.FieldType.int)) ({ frames := 0, cells := 0, slots := 0, locals := 0 } : Room) [.ref (ga X 25)] σ K := by
  refine ent_met (QQ := fun A => va_Qi K (BW X A) A) (by decide) (Nat.le_of_ble_eq_true rfl) ?_
  intro p e s m args below meth c A ls hx hb hr hlocks hml hown ht hK hZ hA hS hl
  have hown : s.vm.findClass "GuardRosterModel" = some m.cls := hown
  have hl : lv_has ls 1 [(0, .ref (ga X 25))] := hl
  unfold wp_X5_thrown at h
  refine lv_aload_n hx hb ddX5_thrown_0 rfl (lv_at hl 0 rfl) ?_
  refine get_25_7 hx hb hown ht hK hS lk1131 ddX5_thrown_1 ?_
  exact k_iret hx hb hr hlocks hK hS h ddX5_thrown_4

set_option maxHeartbeats 4000000 in
set_option maxRecDepth 100000 in
theorem c_X5_fails (l : Launch) (X : GX) {x1 : Int32} {σ : Mem} {K : Int32 → Mem → Prop} (h : wp_X5_fails x1 σ K) : MI l X yX5_fails cX5_fails 2 ((Option.some Jvm.ClassFile.FieldType.boolean)) ({ frames := 0, cells := 0, slots := 0, locals := 0 } : Room) [.ref (ga X 25), .int x1] σ K := by
  refine ent_met (QQ := fun A => va_Qi K (BW X A) A) (by decide) (Nat.le_of_ble_eq_true rfl) ?_
  intro p e s m args below meth c A ls hx hb hr hlocks hml hown ht hK hZ hA hS hl
  have hown : s.vm.findClass "GuardRosterModel" = some m.cls := hown
  have hl : lv_has ls 2 [(0, .ref (ga X 25)), (1, .int x1)] := hl
  unfold wp_X5_fails at h
  refine lv_aload_n hx hb ddX5_fails_0 rfl (lv_at hl 0 rfl) ?_
  refine lv_iload_n hx hb ddX5_fails_1 rfl (lv_at hl 1 rfl) ?_
  refine put_25_7 hx hb hown ht hK hS lk1131 ddX5_fails_2 (fun H locs hS => ?_)
  obtain ⟨σ1, eσ1⟩ : ∃ y : Mem, y = (st σ 25 7 x1) := ⟨_, rfl⟩
  rw [← eσ1] at hS
  replace h := h σ1 eσ1
  refine lv_iload_n hx hb ddX5_fails_5 rfl (lv_at hl 1 rfl) ?_
  refine lv_if_le (tgt := 13) hx hb ddX5_fails_6 (by decide) (fun c2 => ?_) (fun c2 => ?_)
  · replace h := h.1 c2
    refine lv_iconst (v := (0 : Int32)) hx hb ddX5_fails_13 (by decide) ?_
    exact k_zret hx hb hr hlocks hK hS rfl h ddX5_fails_14
  · replace h := h.2 c2
    refine lv_iconst (v := (1 : Int32)) hx hb ddX5_fails_9 (by decide) ?_
    refine lv_goto (tgt := 14) hx hb ddX5_fails_10 (by decide) ?_
    exact k_zret hx hb hr hlocks hK hS rfl h ddX5_fails_14

set_option maxHeartbeats 4000000 in
set_option maxRecDepth 100000 in
theorem c_X5_in (l : Launch) (X : GX) {x0 x1 x2 : Int32} {σ : Mem} {K : Int32 → Mem → Prop} (h : wp_X5_in x0 x1 x2 σ K) : MI l X yX5_in cX5_in 3 ((Option.some Jvm.ClassFile.FieldType.boolean)) ({ frames := 0, cells := 0, slots := 0, locals := 0 } : Room) [.int x0, .int x1, .int x2] σ K := by
  refine ent_met (QQ := fun A => va_Qi K (BW X A) A) (by decide) (Nat.le_of_ble_eq_true rfl) ?_
  intro p e s m args below meth c A ls hx hb hr hlocks hml hown ht hK hZ hA hS hl
  have hown : s.vm.findClass "GuardRosterModel" = some m.cls := hown
  have hl : lv_has ls 3 [(0, .int x0), (1, .int x1), (2, .int x2)] := hl
  unfold wp_X5_in at h
  refine lv_iload_n hx hb ddX5_in_0 rfl (lv_at hl 0 rfl) ?_
  refine lv_iload_n hx hb ddX5_in_1 rfl (lv_at hl 1 rfl) ?_
  refine lv_icmp_lt (tgt := 14) hx hb ddX5_in_2 (by decide) (fun c1 => ?_) (fun c1 => ?_)
  · replace h := h.1 c1
    refine lv_iconst (v := (0 : Int32)) hx hb ddX5_in_14 (by decide) ?_
    exact k_zret hx hb hr hlocks hK hS rfl h ddX5_in_15
  · replace h := h.2 c1
    refine lv_iload_n hx hb ddX5_in_5 rfl (lv_at hl 0 rfl) ?_
    refine lv_iload_n hx hb ddX5_in_6 rfl (lv_at hl 2 rfl) ?_
    refine lv_icmp_gt (tgt := 14) hx hb ddX5_in_7 (by decide) (fun c2 => ?_) (fun c2 => ?_)
    · replace h := h.1 c2
      refine lv_iconst (v := (0 : Int32)) hx hb ddX5_in_14 (by decide) ?_
      exact k_zret hx hb hr hlocks hK hS rfl h ddX5_in_15
    · replace h := h.2 c2
      refine lv_iconst (v := (1 : Int32)) hx hb ddX5_in_10 (by decide) ?_
      refine lv_goto (tgt := 15) hx hb ddX5_in_11 (by decide) ?_
      exact k_zret hx hb hr hlocks hK hS rfl h ddX5_in_15

set_option maxHeartbeats 4000000 in
set_option maxRecDepth 100000 in
theorem c_X5_copies_26_27 (l : Launch) (X : GX) {x1 x3 : Int32} {σ : Mem} {K : Mem → Prop} (h : wp_X5_copies_26_27 x1 x3 σ K) : MV l X yX5_copies cX5_copies 5 ((Option.none : Option Jvm.ClassFile.FieldType)) ({ frames := 0, cells := 0, slots := 0, locals := 0 } : Room) [.ref (ga X 26), .int x1, .ref (ga X 27), .int x3] σ K := by
  refine ent_met (QQ := fun A => va_Qv K (BW X A) A) (by decide) (Nat.le_of_ble_eq_true rfl) ?_
  intro p e s m args below meth c A ls hx hb hr hlocks hml hown ht hK hZ hA hS hl
  have hown : s.vm.findClass "GuardRosterModel" = some m.cls := hown
  have hl : lv_has ls 5 [(0, .ref (ga X 26)), (1, .int x1), (2, .ref (ga X 27)), (3, .int x3)] := hl
  have hL3 : ∀ (n : Nat) (x1 x3 x4 : Int32) (σ : Mem) (H : Heap) (locs : List Loc) (ls : Array Slot), WS X A s.heap σ H locs → lv_has ls 5 [(0, .ref (ga X 26)), (1, .int x1), (2, .ref (ga X 27)), (3, .int x3), (4, .int x4)] → wlp (wpF_X5_copies_26_27_3 K) n (x1, x3, x4, σ) → WV X K p l e ({ frames := 0, cells := 0, slots := 0, locals := 0 } : Room) s m args below meth c A H locs (F0 m 3 ls []) := by
    intro n3
    induction n3 with
    | zero => intro x1 x3 x4 σ H locs ls hS hl h; exact h.elim
    | succ n3 ih3 =>
      intro x1 x3 x4 σ H locs ls hS hl h
      replace h : wpS_X5_copies_26_27_3 K (wlp (wpF_X5_copies_26_27_3 K) n3) x1 x3 x4 σ := h
      unfold wpS_X5_copies_26_27_3 at h
      refine lv_iload hx hb ddX5_copies_3 (lv_at hl 4 rfl) ?_
      refine lv_sipush (v := (179 : Int32)) hx hb ddX5_copies_5 (by decide) ?_
      refine lv_icmp_ge (tgt := 29) hx hb ddX5_copies_8 (by decide) (fun c1 => ?_) (fun c1 => ?_)
      · replace h := h.1 c1
        exact k_vret hx hb hr hlocks hK hS h ddX5_copies_29
      · replace h := h.2 c1
        refine lv_aload_n hx hb ddX5_copies_11 rfl (lv_at hl 2 rfl) ?_
        refine lv_iload_n hx hb ddX5_copies_12 rfl (lv_at hl 3 rfl) ?_
        refine lv_iload hx hb ddX5_copies_13 (lv_at hl 4 rfl) ?_
        refine lv_iadd hx hb ddX5_copies_15 ?_
        refine lv_aload_n hx hb ddX5_copies_16 rfl (lv_at hl 0 rfl) ?_
        refine lv_iload_n hx hb ddX5_copies_17 rfl (lv_at hl 1 rfl) ?_
        refine lv_iload hx hb ddX5_copies_18 (lv_at hl 4 rfl) ?_
        refine lv_iadd hx hb ddX5_copies_20 ?_
        refine ald_26 hx hb hK hS h.1 ddX5_copies_21 ?_
        replace h := h.2
        refine ast_27 hx hb hK hS h.1 ddX5_copies_22 (fun H locs hS => ?_)
        replace h := h.2
        obtain ⟨σ2, eσ2⟩ : ∃ y : Mem, y = (st σ 27 (x3 + x4).toNatClampNeg (σ 26 (x1 + x4).toNatClampNeg)) := ⟨_, rfl⟩
        rw [← eσ2] at hS
        replace h := h σ2 eσ2
        obtain ⟨v3, ev3⟩ : ∃ y : Int32, y = x4 + (1 : Int32) := ⟨_, rfl⟩
        replace h := h v3 ev3
        refine lv_iinc (v := v3) (lv' := [(4, .int v3), (0, .ref (ga X 26)), (1, .int x1), (2, .ref (ga X 27)), (3, .int x3)]) hx hb ddX5_copies_23 hl (k := 4) rfl (by rw [ev3]; rfl) (by decide) rfl (fun ls hl => ?_)
        refine lv_goto (tgt := 3) hx hb ddX5_copies_26 (by decide) ?_
        exact ih3 _ _ _ _ _ _ _ hS (lv_sub hl [1, 2, 3, 4, 0] rfl) h
  unfold wp_X5_copies_26_27 at h
  refine lv_iconst (v := (0 : Int32)) hx hb ddX5_copies_0 (by decide) ?_
  refine lv_istore (lv' := [(4, .int (0 : Int32)), (0, .ref (ga X 26)), (1, .int x1), (2, .ref (ga X 27)), (3, .int x3)]) hx hb ddX5_copies_1 hl (by decide) rfl (fun ls hl => ?_)
  obtain ⟨n, h⟩ := h
  exact hL3 n _ _ _ _ _ _ _ hS (lv_sub hl [1, 2, 3, 4, 0] rfl) h

set_option maxHeartbeats 4000000 in
set_option maxRecDepth 100000 in
theorem c_X5_copies_29_27 (l : Launch) (X : GX) {x1 x3 : Int32} {σ : Mem} {K : Mem → Prop} (h : wp_X5_copies_29_27 x1 x3 σ K) : MV l X yX5_copies cX5_copies 5 ((Option.none : Option Jvm.ClassFile.FieldType)) ({ frames := 0, cells := 0, slots := 0, locals := 0 } : Room) [.ref (ga X 29), .int x1, .ref (ga X 27), .int x3] σ K := by
  refine ent_met (QQ := fun A => va_Qv K (BW X A) A) (by decide) (Nat.le_of_ble_eq_true rfl) ?_
  intro p e s m args below meth c A ls hx hb hr hlocks hml hown ht hK hZ hA hS hl
  have hown : s.vm.findClass "GuardRosterModel" = some m.cls := hown
  have hl : lv_has ls 5 [(0, .ref (ga X 29)), (1, .int x1), (2, .ref (ga X 27)), (3, .int x3)] := hl
  have hL3 : ∀ (n : Nat) (x1 x3 x4 : Int32) (σ : Mem) (H : Heap) (locs : List Loc) (ls : Array Slot), WS X A s.heap σ H locs → lv_has ls 5 [(0, .ref (ga X 29)), (1, .int x1), (2, .ref (ga X 27)), (3, .int x3), (4, .int x4)] → wlp (wpF_X5_copies_29_27_3 K) n (x1, x3, x4, σ) → WV X K p l e ({ frames := 0, cells := 0, slots := 0, locals := 0 } : Room) s m args below meth c A H locs (F0 m 3 ls []) := by
    intro n3
    induction n3 with
    | zero => intro x1 x3 x4 σ H locs ls hS hl h; exact h.elim
    | succ n3 ih3 =>
      intro x1 x3 x4 σ H locs ls hS hl h
      replace h : wpS_X5_copies_29_27_3 K (wlp (wpF_X5_copies_29_27_3 K) n3) x1 x3 x4 σ := h
      unfold wpS_X5_copies_29_27_3 at h
      refine lv_iload hx hb ddX5_copies_3 (lv_at hl 4 rfl) ?_
      refine lv_sipush (v := (179 : Int32)) hx hb ddX5_copies_5 (by decide) ?_
      refine lv_icmp_ge (tgt := 29) hx hb ddX5_copies_8 (by decide) (fun c1 => ?_) (fun c1 => ?_)
      · replace h := h.1 c1
        exact k_vret hx hb hr hlocks hK hS h ddX5_copies_29
      · replace h := h.2 c1
        refine lv_aload_n hx hb ddX5_copies_11 rfl (lv_at hl 2 rfl) ?_
        refine lv_iload_n hx hb ddX5_copies_12 rfl (lv_at hl 3 rfl) ?_
        refine lv_iload hx hb ddX5_copies_13 (lv_at hl 4 rfl) ?_
        refine lv_iadd hx hb ddX5_copies_15 ?_
        refine lv_aload_n hx hb ddX5_copies_16 rfl (lv_at hl 0 rfl) ?_
        refine lv_iload_n hx hb ddX5_copies_17 rfl (lv_at hl 1 rfl) ?_
        refine lv_iload hx hb ddX5_copies_18 (lv_at hl 4 rfl) ?_
        refine lv_iadd hx hb ddX5_copies_20 ?_
        refine ald_29 hx hb hK hS h.1 ddX5_copies_21 ?_
        replace h := h.2
        refine ast_27 hx hb hK hS h.1 ddX5_copies_22 (fun H locs hS => ?_)
        replace h := h.2
        obtain ⟨σ2, eσ2⟩ : ∃ y : Mem, y = (st σ 27 (x3 + x4).toNatClampNeg (σ 29 (x1 + x4).toNatClampNeg)) := ⟨_, rfl⟩
        rw [← eσ2] at hS
        replace h := h σ2 eσ2
        obtain ⟨v3, ev3⟩ : ∃ y : Int32, y = x4 + (1 : Int32) := ⟨_, rfl⟩
        replace h := h v3 ev3
        refine lv_iinc (v := v3) (lv' := [(4, .int v3), (0, .ref (ga X 29)), (1, .int x1), (2, .ref (ga X 27)), (3, .int x3)]) hx hb ddX5_copies_23 hl (k := 4) rfl (by rw [ev3]; rfl) (by decide) rfl (fun ls hl => ?_)
        refine lv_goto (tgt := 3) hx hb ddX5_copies_26 (by decide) ?_
        exact ih3 _ _ _ _ _ _ _ hS (lv_sub hl [1, 2, 3, 4, 0] rfl) h
  unfold wp_X5_copies_29_27 at h
  refine lv_iconst (v := (0 : Int32)) hx hb ddX5_copies_0 (by decide) ?_
  refine lv_istore (lv' := [(4, .int (0 : Int32)), (0, .ref (ga X 29)), (1, .int x1), (2, .ref (ga X 27)), (3, .int x3)]) hx hb ddX5_copies_1 hl (by decide) rfl (fun ls hl => ?_)
  obtain ⟨n, h⟩ := h
  exact hL3 n _ _ _ _ _ _ _ hS (lv_sub hl [1, 2, 3, 4, 0] rfl) h

set_option maxHeartbeats 4000000 in
set_option maxRecDepth 100000 in
theorem c_X5_copies_26_28 (l : Launch) (X : GX) {x1 x3 : Int32} {σ : Mem} {K : Mem → Prop} (h : wp_X5_copies_26_28 x1 x3 σ K) : MV l X yX5_copies cX5_copies 5 ((Option.none : Option Jvm.ClassFile.FieldType)) ({ frames := 0, cells := 0, slots := 0, locals := 0 } : Room) [.ref (ga X 26), .int x1, .ref (ga X 28), .int x3] σ K := by
  refine ent_met (QQ := fun A => va_Qv K (BW X A) A) (by decide) (Nat.le_of_ble_eq_true rfl) ?_
  intro p e s m args below meth c A ls hx hb hr hlocks hml hown ht hK hZ hA hS hl
  have hown : s.vm.findClass "GuardRosterModel" = some m.cls := hown
  have hl : lv_has ls 5 [(0, .ref (ga X 26)), (1, .int x1), (2, .ref (ga X 28)), (3, .int x3)] := hl
  have hL3 : ∀ (n : Nat) (x1 x3 x4 : Int32) (σ : Mem) (H : Heap) (locs : List Loc) (ls : Array Slot), WS X A s.heap σ H locs → lv_has ls 5 [(0, .ref (ga X 26)), (1, .int x1), (2, .ref (ga X 28)), (3, .int x3), (4, .int x4)] → wlp (wpF_X5_copies_26_28_3 K) n (x1, x3, x4, σ) → WV X K p l e ({ frames := 0, cells := 0, slots := 0, locals := 0 } : Room) s m args below meth c A H locs (F0 m 3 ls []) := by
    intro n3
    induction n3 with
    | zero => intro x1 x3 x4 σ H locs ls hS hl h; exact h.elim
    | succ n3 ih3 =>
      intro x1 x3 x4 σ H locs ls hS hl h
      replace h : wpS_X5_copies_26_28_3 K (wlp (wpF_X5_copies_26_28_3 K) n3) x1 x3 x4 σ := h
      unfold wpS_X5_copies_26_28_3 at h
      refine lv_iload hx hb ddX5_copies_3 (lv_at hl 4 rfl) ?_
      refine lv_sipush (v := (179 : Int32)) hx hb ddX5_copies_5 (by decide) ?_
      refine lv_icmp_ge (tgt := 29) hx hb ddX5_copies_8 (by decide) (fun c1 => ?_) (fun c1 => ?_)
      · replace h := h.1 c1
        exact k_vret hx hb hr hlocks hK hS h ddX5_copies_29
      · replace h := h.2 c1
        refine lv_aload_n hx hb ddX5_copies_11 rfl (lv_at hl 2 rfl) ?_
        refine lv_iload_n hx hb ddX5_copies_12 rfl (lv_at hl 3 rfl) ?_
        refine lv_iload hx hb ddX5_copies_13 (lv_at hl 4 rfl) ?_
        refine lv_iadd hx hb ddX5_copies_15 ?_
        refine lv_aload_n hx hb ddX5_copies_16 rfl (lv_at hl 0 rfl) ?_
        refine lv_iload_n hx hb ddX5_copies_17 rfl (lv_at hl 1 rfl) ?_
        refine lv_iload hx hb ddX5_copies_18 (lv_at hl 4 rfl) ?_
        refine lv_iadd hx hb ddX5_copies_20 ?_
        refine ald_26 hx hb hK hS h.1 ddX5_copies_21 ?_
        replace h := h.2
        refine ast_28 hx hb hK hS h.1 ddX5_copies_22 (fun H locs hS => ?_)
        replace h := h.2
        obtain ⟨σ2, eσ2⟩ : ∃ y : Mem, y = (st σ 28 (x3 + x4).toNatClampNeg (σ 26 (x1 + x4).toNatClampNeg)) := ⟨_, rfl⟩
        rw [← eσ2] at hS
        replace h := h σ2 eσ2
        obtain ⟨v3, ev3⟩ : ∃ y : Int32, y = x4 + (1 : Int32) := ⟨_, rfl⟩
        replace h := h v3 ev3
        refine lv_iinc (v := v3) (lv' := [(4, .int v3), (0, .ref (ga X 26)), (1, .int x1), (2, .ref (ga X 28)), (3, .int x3)]) hx hb ddX5_copies_23 hl (k := 4) rfl (by rw [ev3]; rfl) (by decide) rfl (fun ls hl => ?_)
        refine lv_goto (tgt := 3) hx hb ddX5_copies_26 (by decide) ?_
        exact ih3 _ _ _ _ _ _ _ hS (lv_sub hl [1, 2, 3, 4, 0] rfl) h
  unfold wp_X5_copies_26_28 at h
  refine lv_iconst (v := (0 : Int32)) hx hb ddX5_copies_0 (by decide) ?_
  refine lv_istore (lv' := [(4, .int (0 : Int32)), (0, .ref (ga X 26)), (1, .int x1), (2, .ref (ga X 28)), (3, .int x3)]) hx hb ddX5_copies_1 hl (by decide) rfl (fun ls hl => ?_)
  obtain ⟨n, h⟩ := h
  exact hL3 n _ _ _ _ _ _ _ hS (lv_sub hl [1, 2, 3, 4, 0] rfl) h

set_option maxHeartbeats 4000000 in
set_option maxRecDepth 100000 in
theorem c_X5_copies_28_26 (l : Launch) (X : GX) {x1 x3 : Int32} {σ : Mem} {K : Mem → Prop} (h : wp_X5_copies_28_26 x1 x3 σ K) : MV l X yX5_copies cX5_copies 5 ((Option.none : Option Jvm.ClassFile.FieldType)) ({ frames := 0, cells := 0, slots := 0, locals := 0 } : Room) [.ref (ga X 28), .int x1, .ref (ga X 26), .int x3] σ K := by
  refine ent_met (QQ := fun A => va_Qv K (BW X A) A) (by decide) (Nat.le_of_ble_eq_true rfl) ?_
  intro p e s m args below meth c A ls hx hb hr hlocks hml hown ht hK hZ hA hS hl
  have hown : s.vm.findClass "GuardRosterModel" = some m.cls := hown
  have hl : lv_has ls 5 [(0, .ref (ga X 28)), (1, .int x1), (2, .ref (ga X 26)), (3, .int x3)] := hl
  have hL3 : ∀ (n : Nat) (x1 x3 x4 : Int32) (σ : Mem) (H : Heap) (locs : List Loc) (ls : Array Slot), WS X A s.heap σ H locs → lv_has ls 5 [(0, .ref (ga X 28)), (1, .int x1), (2, .ref (ga X 26)), (3, .int x3), (4, .int x4)] → wlp (wpF_X5_copies_28_26_3 K) n (x1, x3, x4, σ) → WV X K p l e ({ frames := 0, cells := 0, slots := 0, locals := 0 } : Room) s m args below meth c A H locs (F0 m 3 ls []) := by
    intro n3
    induction n3 with
    | zero => intro x1 x3 x4 σ H locs ls hS hl h; exact h.elim
    | succ n3 ih3 =>
      intro x1 x3 x4 σ H locs ls hS hl h
      replace h : wpS_X5_copies_28_26_3 K (wlp (wpF_X5_copies_28_26_3 K) n3) x1 x3 x4 σ := h
      unfold wpS_X5_copies_28_26_3 at h
      refine lv_iload hx hb ddX5_copies_3 (lv_at hl 4 rfl) ?_
      refine lv_sipush (v := (179 : Int32)) hx hb ddX5_copies_5 (by decide) ?_
      refine lv_icmp_ge (tgt := 29) hx hb ddX5_copies_8 (by decide) (fun c1 => ?_) (fun c1 => ?_)
      · replace h := h.1 c1
        exact k_vret hx hb hr hlocks hK hS h ddX5_copies_29
      · replace h := h.2 c1
        refine lv_aload_n hx hb ddX5_copies_11 rfl (lv_at hl 2 rfl) ?_
        refine lv_iload_n hx hb ddX5_copies_12 rfl (lv_at hl 3 rfl) ?_
        refine lv_iload hx hb ddX5_copies_13 (lv_at hl 4 rfl) ?_
        refine lv_iadd hx hb ddX5_copies_15 ?_
        refine lv_aload_n hx hb ddX5_copies_16 rfl (lv_at hl 0 rfl) ?_
        refine lv_iload_n hx hb ddX5_copies_17 rfl (lv_at hl 1 rfl) ?_
        refine lv_iload hx hb ddX5_copies_18 (lv_at hl 4 rfl) ?_
        refine lv_iadd hx hb ddX5_copies_20 ?_
        refine ald_28 hx hb hK hS h.1 ddX5_copies_21 ?_
        replace h := h.2
        refine ast_26 hx hb hK hS h.1 ddX5_copies_22 (fun H locs hS => ?_)
        replace h := h.2
        obtain ⟨σ2, eσ2⟩ : ∃ y : Mem, y = (st σ 26 (x3 + x4).toNatClampNeg (σ 28 (x1 + x4).toNatClampNeg)) := ⟨_, rfl⟩
        rw [← eσ2] at hS
        replace h := h σ2 eσ2
        obtain ⟨v3, ev3⟩ : ∃ y : Int32, y = x4 + (1 : Int32) := ⟨_, rfl⟩
        replace h := h v3 ev3
        refine lv_iinc (v := v3) (lv' := [(4, .int v3), (0, .ref (ga X 28)), (1, .int x1), (2, .ref (ga X 26)), (3, .int x3)]) hx hb ddX5_copies_23 hl (k := 4) rfl (by rw [ev3]; rfl) (by decide) rfl (fun ls hl => ?_)
        refine lv_goto (tgt := 3) hx hb ddX5_copies_26 (by decide) ?_
        exact ih3 _ _ _ _ _ _ _ hS (lv_sub hl [1, 2, 3, 4, 0] rfl) h
  unfold wp_X5_copies_28_26 at h
  refine lv_iconst (v := (0 : Int32)) hx hb ddX5_copies_0 (by decide) ?_
  refine lv_istore (lv' := [(4, .int (0 : Int32)), (0, .ref (ga X 28)), (1, .int x1), (2, .ref (ga X 26)), (3, .int x3)]) hx hb ddX5_copies_1 hl (by decide) rfl (fun ls hl => ?_)
  obtain ⟨n, h⟩ := h
  exact hL3 n _ _ _ _ _ _ _ hS (lv_sub hl [1, 2, 3, 4, 0] rfl) h

set_option maxHeartbeats 4000000 in
set_option maxRecDepth 100000 in
theorem c_X5_copies_26_29 (l : Launch) (X : GX) {x1 x3 : Int32} {σ : Mem} {K : Mem → Prop} (h : wp_X5_copies_26_29 x1 x3 σ K) : MV l X yX5_copies cX5_copies 5 ((Option.none : Option Jvm.ClassFile.FieldType)) ({ frames := 0, cells := 0, slots := 0, locals := 0 } : Room) [.ref (ga X 26), .int x1, .ref (ga X 29), .int x3] σ K := by
  refine ent_met (QQ := fun A => va_Qv K (BW X A) A) (by decide) (Nat.le_of_ble_eq_true rfl) ?_
  intro p e s m args below meth c A ls hx hb hr hlocks hml hown ht hK hZ hA hS hl
  have hown : s.vm.findClass "GuardRosterModel" = some m.cls := hown
  have hl : lv_has ls 5 [(0, .ref (ga X 26)), (1, .int x1), (2, .ref (ga X 29)), (3, .int x3)] := hl
  have hL3 : ∀ (n : Nat) (x1 x3 x4 : Int32) (σ : Mem) (H : Heap) (locs : List Loc) (ls : Array Slot), WS X A s.heap σ H locs → lv_has ls 5 [(0, .ref (ga X 26)), (1, .int x1), (2, .ref (ga X 29)), (3, .int x3), (4, .int x4)] → wlp (wpF_X5_copies_26_29_3 K) n (x1, x3, x4, σ) → WV X K p l e ({ frames := 0, cells := 0, slots := 0, locals := 0 } : Room) s m args below meth c A H locs (F0 m 3 ls []) := by
    intro n3
    induction n3 with
    | zero => intro x1 x3 x4 σ H locs ls hS hl h; exact h.elim
    | succ n3 ih3 =>
      intro x1 x3 x4 σ H locs ls hS hl h
      replace h : wpS_X5_copies_26_29_3 K (wlp (wpF_X5_copies_26_29_3 K) n3) x1 x3 x4 σ := h
      unfold wpS_X5_copies_26_29_3 at h
      refine lv_iload hx hb ddX5_copies_3 (lv_at hl 4 rfl) ?_
      refine lv_sipush (v := (179 : Int32)) hx hb ddX5_copies_5 (by decide) ?_
      refine lv_icmp_ge (tgt := 29) hx hb ddX5_copies_8 (by decide) (fun c1 => ?_) (fun c1 => ?_)
      · replace h := h.1 c1
        exact k_vret hx hb hr hlocks hK hS h ddX5_copies_29
      · replace h := h.2 c1
        refine lv_aload_n hx hb ddX5_copies_11 rfl (lv_at hl 2 rfl) ?_
        refine lv_iload_n hx hb ddX5_copies_12 rfl (lv_at hl 3 rfl) ?_
        refine lv_iload hx hb ddX5_copies_13 (lv_at hl 4 rfl) ?_
        refine lv_iadd hx hb ddX5_copies_15 ?_
        refine lv_aload_n hx hb ddX5_copies_16 rfl (lv_at hl 0 rfl) ?_
        refine lv_iload_n hx hb ddX5_copies_17 rfl (lv_at hl 1 rfl) ?_
        refine lv_iload hx hb ddX5_copies_18 (lv_at hl 4 rfl) ?_
        refine lv_iadd hx hb ddX5_copies_20 ?_
        refine ald_26 hx hb hK hS h.1 ddX5_copies_21 ?_
        replace h := h.2
        refine ast_29 hx hb hK hS h.1 ddX5_copies_22 (fun H locs hS => ?_)
        replace h := h.2
        obtain ⟨σ2, eσ2⟩ : ∃ y : Mem, y = (st σ 29 (x3 + x4).toNatClampNeg (σ 26 (x1 + x4).toNatClampNeg)) := ⟨_, rfl⟩
        rw [← eσ2] at hS
        replace h := h σ2 eσ2
        obtain ⟨v3, ev3⟩ : ∃ y : Int32, y = x4 + (1 : Int32) := ⟨_, rfl⟩
        replace h := h v3 ev3
        refine lv_iinc (v := v3) (lv' := [(4, .int v3), (0, .ref (ga X 26)), (1, .int x1), (2, .ref (ga X 29)), (3, .int x3)]) hx hb ddX5_copies_23 hl (k := 4) rfl (by rw [ev3]; rfl) (by decide) rfl (fun ls hl => ?_)
        refine lv_goto (tgt := 3) hx hb ddX5_copies_26 (by decide) ?_
        exact ih3 _ _ _ _ _ _ _ hS (lv_sub hl [1, 2, 3, 4, 0] rfl) h
  unfold wp_X5_copies_26_29 at h
  refine lv_iconst (v := (0 : Int32)) hx hb ddX5_copies_0 (by decide) ?_
  refine lv_istore (lv' := [(4, .int (0 : Int32)), (0, .ref (ga X 26)), (1, .int x1), (2, .ref (ga X 29)), (3, .int x3)]) hx hb ddX5_copies_1 hl (by decide) rfl (fun ls hl => ?_)
  obtain ⟨n, h⟩ := h
  exact hL3 n _ _ _ _ _ _ _ hS (lv_sub hl [1, 2, 3, 4, 0] rfl) h

set_option maxHeartbeats 4000000 in
set_option maxRecDepth 100000 in
theorem c_X5_copies_29_26 (l : Launch) (X : GX) {x1 x3 : Int32} {σ : Mem} {K : Mem → Prop} (h : wp_X5_copies_29_26 x1 x3 σ K) : MV l X yX5_copies cX5_copies 5 ((Option.none : Option Jvm.ClassFile.FieldType)) ({ frames := 0, cells := 0, slots := 0, locals := 0 } : Room) [.ref (ga X 29), .int x1, .ref (ga X 26), .int x3] σ K := by
  refine ent_met (QQ := fun A => va_Qv K (BW X A) A) (by decide) (Nat.le_of_ble_eq_true rfl) ?_
  intro p e s m args below meth c A ls hx hb hr hlocks hml hown ht hK hZ hA hS hl
  have hown : s.vm.findClass "GuardRosterModel" = some m.cls := hown
  have hl : lv_has ls 5 [(0, .ref (ga X 29)), (1, .int x1), (2, .ref (ga X 26)), (3, .int x3)] := hl
  have hL3 : ∀ (n : Nat) (x1 x3 x4 : Int32) (σ : Mem) (H : Heap) (locs : List Loc) (ls : Array Slot), WS X A s.heap σ H locs → lv_has ls 5 [(0, .ref (ga X 29)), (1, .int x1), (2, .ref (ga X 26)), (3, .int x3), (4, .int x4)] → wlp (wpF_X5_copies_29_26_3 K) n (x1, x3, x4, σ) → WV X K p l e ({ frames := 0, cells := 0, slots := 0, locals := 0 } : Room) s m args below meth c A H locs (F0 m 3 ls []) := by
    intro n3
    induction n3 with
    | zero => intro x1 x3 x4 σ H locs ls hS hl h; exact h.elim
    | succ n3 ih3 =>
      intro x1 x3 x4 σ H locs ls hS hl h
      replace h : wpS_X5_copies_29_26_3 K (wlp (wpF_X5_copies_29_26_3 K) n3) x1 x3 x4 σ := h
      unfold wpS_X5_copies_29_26_3 at h
      refine lv_iload hx hb ddX5_copies_3 (lv_at hl 4 rfl) ?_
      refine lv_sipush (v := (179 : Int32)) hx hb ddX5_copies_5 (by decide) ?_
      refine lv_icmp_ge (tgt := 29) hx hb ddX5_copies_8 (by decide) (fun c1 => ?_) (fun c1 => ?_)
      · replace h := h.1 c1
        exact k_vret hx hb hr hlocks hK hS h ddX5_copies_29
      · replace h := h.2 c1
        refine lv_aload_n hx hb ddX5_copies_11 rfl (lv_at hl 2 rfl) ?_
        refine lv_iload_n hx hb ddX5_copies_12 rfl (lv_at hl 3 rfl) ?_
        refine lv_iload hx hb ddX5_copies_13 (lv_at hl 4 rfl) ?_
        refine lv_iadd hx hb ddX5_copies_15 ?_
        refine lv_aload_n hx hb ddX5_copies_16 rfl (lv_at hl 0 rfl) ?_
        refine lv_iload_n hx hb ddX5_copies_17 rfl (lv_at hl 1 rfl) ?_
        refine lv_iload hx hb ddX5_copies_18 (lv_at hl 4 rfl) ?_
        refine lv_iadd hx hb ddX5_copies_20 ?_
        refine ald_29 hx hb hK hS h.1 ddX5_copies_21 ?_
        replace h := h.2
        refine ast_26 hx hb hK hS h.1 ddX5_copies_22 (fun H locs hS => ?_)
        replace h := h.2
        obtain ⟨σ2, eσ2⟩ : ∃ y : Mem, y = (st σ 26 (x3 + x4).toNatClampNeg (σ 29 (x1 + x4).toNatClampNeg)) := ⟨_, rfl⟩
        rw [← eσ2] at hS
        replace h := h σ2 eσ2
        obtain ⟨v3, ev3⟩ : ∃ y : Int32, y = x4 + (1 : Int32) := ⟨_, rfl⟩
        replace h := h v3 ev3
        refine lv_iinc (v := v3) (lv' := [(4, .int v3), (0, .ref (ga X 29)), (1, .int x1), (2, .ref (ga X 26)), (3, .int x3)]) hx hb ddX5_copies_23 hl (k := 4) rfl (by rw [ev3]; rfl) (by decide) rfl (fun ls hl => ?_)
        refine lv_goto (tgt := 3) hx hb ddX5_copies_26 (by decide) ?_
        exact ih3 _ _ _ _ _ _ _ hS (lv_sub hl [1, 2, 3, 4, 0] rfl) h
  unfold wp_X5_copies_29_26 at h
  refine lv_iconst (v := (0 : Int32)) hx hb ddX5_copies_0 (by decide) ?_
  refine lv_istore (lv' := [(4, .int (0 : Int32)), (0, .ref (ga X 29)), (1, .int x1), (2, .ref (ga X 26)), (3, .int x3)]) hx hb ddX5_copies_1 hl (by decide) rfl (fun ls hl => ?_)
  obtain ⟨n, h⟩ := h
  exact hL3 n _ _ _ _ _ _ _ hS (lv_sub hl [1, 2, 3, 4, 0] rfl) h

set_option maxHeartbeats 4000000 in
set_option maxRecDepth 100000 in
theorem c_X5_copies_27_26 (l : Launch) (X : GX) {x1 x3 : Int32} {σ : Mem} {K : Mem → Prop} (h : wp_X5_copies_27_26 x1 x3 σ K) : MV l X yX5_copies cX5_copies 5 ((Option.none : Option Jvm.ClassFile.FieldType)) ({ frames := 0, cells := 0, slots := 0, locals := 0 } : Room) [.ref (ga X 27), .int x1, .ref (ga X 26), .int x3] σ K := by
  refine ent_met (QQ := fun A => va_Qv K (BW X A) A) (by decide) (Nat.le_of_ble_eq_true rfl) ?_
  intro p e s m args below meth c A ls hx hb hr hlocks hml hown ht hK hZ hA hS hl
  have hown : s.vm.findClass "GuardRosterModel" = some m.cls := hown
  have hl : lv_has ls 5 [(0, .ref (ga X 27)), (1, .int x1), (2, .ref (ga X 26)), (3, .int x3)] := hl
  have hL3 : ∀ (n : Nat) (x1 x3 x4 : Int32) (σ : Mem) (H : Heap) (locs : List Loc) (ls : Array Slot), WS X A s.heap σ H locs → lv_has ls 5 [(0, .ref (ga X 27)), (1, .int x1), (2, .ref (ga X 26)), (3, .int x3), (4, .int x4)] → wlp (wpF_X5_copies_27_26_3 K) n (x1, x3, x4, σ) → WV X K p l e ({ frames := 0, cells := 0, slots := 0, locals := 0 } : Room) s m args below meth c A H locs (F0 m 3 ls []) := by
    intro n3
    induction n3 with
    | zero => intro x1 x3 x4 σ H locs ls hS hl h; exact h.elim
    | succ n3 ih3 =>
      intro x1 x3 x4 σ H locs ls hS hl h
      replace h : wpS_X5_copies_27_26_3 K (wlp (wpF_X5_copies_27_26_3 K) n3) x1 x3 x4 σ := h
      unfold wpS_X5_copies_27_26_3 at h
      refine lv_iload hx hb ddX5_copies_3 (lv_at hl 4 rfl) ?_
      refine lv_sipush (v := (179 : Int32)) hx hb ddX5_copies_5 (by decide) ?_
      refine lv_icmp_ge (tgt := 29) hx hb ddX5_copies_8 (by decide) (fun c1 => ?_) (fun c1 => ?_)
      · replace h := h.1 c1
        exact k_vret hx hb hr hlocks hK hS h ddX5_copies_29
      · replace h := h.2 c1
        refine lv_aload_n hx hb ddX5_copies_11 rfl (lv_at hl 2 rfl) ?_
        refine lv_iload_n hx hb ddX5_copies_12 rfl (lv_at hl 3 rfl) ?_
        refine lv_iload hx hb ddX5_copies_13 (lv_at hl 4 rfl) ?_
        refine lv_iadd hx hb ddX5_copies_15 ?_
        refine lv_aload_n hx hb ddX5_copies_16 rfl (lv_at hl 0 rfl) ?_
        refine lv_iload_n hx hb ddX5_copies_17 rfl (lv_at hl 1 rfl) ?_
        refine lv_iload hx hb ddX5_copies_18 (lv_at hl 4 rfl) ?_
        refine lv_iadd hx hb ddX5_copies_20 ?_
        refine ald_27 hx hb hK hS h.1 ddX5_copies_21 ?_
        replace h := h.2
        refine ast_26 hx hb hK hS h.1 ddX5_copies_22 (fun H locs hS => ?_)
        replace h := h.2
        obtain ⟨σ2, eσ2⟩ : ∃ y : Mem, y = (st σ 26 (x3 + x4).toNatClampNeg (σ 27 (x1 + x4).toNatClampNeg)) := ⟨_, rfl⟩
        rw [← eσ2] at hS
        replace h := h σ2 eσ2
        obtain ⟨v3, ev3⟩ : ∃ y : Int32, y = x4 + (1 : Int32) := ⟨_, rfl⟩
        replace h := h v3 ev3
        refine lv_iinc (v := v3) (lv' := [(4, .int v3), (0, .ref (ga X 27)), (1, .int x1), (2, .ref (ga X 26)), (3, .int x3)]) hx hb ddX5_copies_23 hl (k := 4) rfl (by rw [ev3]; rfl) (by decide) rfl (fun ls hl => ?_)
        refine lv_goto (tgt := 3) hx hb ddX5_copies_26 (by decide) ?_
        exact ih3 _ _ _ _ _ _ _ hS (lv_sub hl [1, 2, 3, 4, 0] rfl) h
  unfold wp_X5_copies_27_26 at h
  refine lv_iconst (v := (0 : Int32)) hx hb ddX5_copies_0 (by decide) ?_
  refine lv_istore (lv' := [(4, .int (0 : Int32)), (0, .ref (ga X 27)), (1, .int x1), (2, .ref (ga X 26)), (3, .int x3)]) hx hb ddX5_copies_1 hl (by decide) rfl (fun ls hl => ?_)
  obtain ⟨n, h⟩ := h
  exact hL3 n _ _ _ _ _ _ _ hS (lv_sub hl [1, 2, 3, 4, 0] rfl) h

set_option maxHeartbeats 4000000 in
set_option maxRecDepth 100000 in
theorem c_X5_keeps_26 (l : Launch) (X : GX) {σ : Mem} {K : Mem → Prop} (h : wp_X5_keeps_26 σ K) : MV l X yX5_keeps cX5_keeps 3 ((Option.none : Option Jvm.ClassFile.FieldType)) ({ frames := 1, cells := 0, slots := 0, locals := 24 } : Room) [.ref (ga X 25), .ref (ga X 26)] σ K := by
  refine ent_met (QQ := fun A => va_Qv K (BW X A) A) (by decide) (Nat.le_of_ble_eq_true rfl) ?_
  intro p e s m args below meth c A ls hx hb hr hlocks hml hown ht hK hZ hA hS hl
  have hown : s.vm.findClass "GuardRosterModel" = some m.cls := hown
  have hl : lv_has ls 3 [(0, .ref (ga X 25)), (1, .ref (ga X 26))] := hl
  have hJ63 : ∀ (σ : Mem) (H : Heap) (locs : List Loc) (ls : Array Slot), WS X A s.heap σ H locs → lv_has ls 3 [(0, .ref (ga X 25)), (1, .ref (ga X 26))] → wpJ_X5_keeps_26_63 K σ → WV X K p l e ({ frames := 1, cells := 0, slots := 0, locals := 24 } : Room) s m args below meth c A H locs (F0 m 63 ls []) := by
    intro  σ H locs ls hS hl h
    unfold wpJ_X5_keeps_26_63 at h
    refine lv_aload_n hx hb ddX5_keeps_63 rfl (lv_at hl 1 rfl) ?_
    refine lv_iconst (v := (0 : Int32)) hx hb ddX5_keeps_64 (by decide) ?_
    refine lv_aload_n hx hb ddX5_keeps_65 rfl (lv_at hl 0 rfl) ?_
    refine get_25_1 hx hb hown ht hK hS lk1125 ddX5_keeps_66 ?_
    refine lv_sipush (v := (179 : Int32)) hx hb ddX5_keeps_69 (by decide) ?_
    refine lv_aload_n hx hb ddX5_keeps_72 rfl (lv_at hl 0 rfl) ?_
    refine get_25_5 hx hb hown ht hK hS lk1129 ddX5_keeps_73 ?_
    refine lv_imul hx hb ddX5_keeps_76 ?_
    refine k_SV (As := [.ref (ga X 26), .int (0 : Int32), .ref (ga X 27), .int ((179 : Int32) * (σ 25 5))]) (rest := []) (c_X5_copies_26_27 l X h) mf_X5_copies lk1207 hx hb hml hown ht hK hZ hS hA ⟨rfl, rfl⟩ ⟨Nat.le_of_ble_eq_true rfl, Nat.le_of_ble_eq_true rfl⟩ rfl hl.1 rfl (Nat.le_of_ble_eq_true rfl) ⟨Nat.le_of_ble_eq_true rfl, Nat.le_of_ble_eq_true rfl⟩ ddX5_keeps_77 (fun σ4 H locs hS h => ?_)
    refine lv_aload_n hx hb ddX5_keeps_80 rfl (lv_at hl 0 rfl) ?_
    refine lv_dup hx hb ddX5_keeps_81 rfl ?_
    refine get_25_5 hx hb hown ht hK hS lk1129 ddX5_keeps_82 ?_
    refine lv_iconst (v := (1 : Int32)) hx hb ddX5_keeps_85 (by decide) ?_
    refine lv_iadd hx hb ddX5_keeps_86 ?_
    refine put_25_5 hx hb hown ht hK hS lk1129 ddX5_keeps_87 (fun H locs hS => ?_)
    obtain ⟨σ5, eσ5⟩ : ∃ y : Mem, y = (st σ4 25 5 ((σ4 25 5) + (1 : Int32))) := ⟨_, rfl⟩
    rw [← eσ5] at hS
    replace h := h σ5 eσ5
    exact k_vret hx hb hr hlocks hK hS h ddX5_keeps_90
  have hJ53 : ∀ (σ : Mem) (H : Heap) (locs : List Loc) (ls : Array Slot), WS X A s.heap σ H locs → lv_has ls 3 [(0, .ref (ga X 25)), (1, .ref (ga X 26))] → wpJ_X5_keeps_26_53 K σ → WV X K p l e ({ frames := 1, cells := 0, slots := 0, locals := 24 } : Room) s m args below meth c A H locs (F0 m 53 ls []) := by
    intro  σ H locs ls hS hl h
    unfold wpJ_X5_keeps_26_53 at h
    refine lv_aload_n hx hb ddX5_keeps_53 rfl (lv_at hl 0 rfl) ?_
    refine lv_dup hx hb ddX5_keeps_54 rfl ?_
    refine get_25_5 hx hb hown ht hK hS lk1129 ddX5_keeps_55 ?_
    refine lv_iconst (v := (1 : Int32)) hx hb ddX5_keeps_58 (by decide) ?_
    refine lv_isub hx hb ddX5_keeps_59 ?_
    refine put_25_5 hx hb hown ht hK hS lk1129 ddX5_keeps_60 (fun H locs hS => ?_)
    obtain ⟨σ7, eσ7⟩ : ∃ y : Mem, y = (st σ 25 5 ((σ 25 5) - (1 : Int32))) := ⟨_, rfl⟩
    rw [← eσ7] at hS
    replace h := h σ7 eσ7
    exact hJ63  _ _ _ _ hS (lv_sub hl [0, 1] rfl) h
  have hL24 : ∀ (n : Nat) (x2 : Int32) (σ : Mem) (H : Heap) (locs : List Loc) (ls : Array Slot), WS X A s.heap σ H locs → lv_has ls 3 [(0, .ref (ga X 25)), (1, .ref (ga X 26)), (2, .int x2)] → wlp (wpF_X5_keeps_26_24 K) n (x2, σ) → WV X K p l e ({ frames := 1, cells := 0, slots := 0, locals := 24 } : Room) s m args below meth c A H locs (F0 m 24 ls []) := by
    intro n24
    induction n24 with
    | zero => intro x2 σ H locs ls hS hl h; exact h.elim
    | succ n24 ih24 =>
      intro x2 σ H locs ls hS hl h
      replace h : wpS_X5_keeps_26_24 K (wlp (wpF_X5_keeps_26_24 K) n24) x2 σ := h
      unfold wpS_X5_keeps_26_24 at h
      refine lv_iload_n hx hb ddX5_keeps_24 rfl (lv_at hl 2 rfl) ?_
      refine lv_sipush (v := (1253 : Int32)) hx hb ddX5_keeps_25 (by decide) ?_
      refine lv_icmp_ge (tgt := 53) hx hb ddX5_keeps_28 (by decide) (fun c6 => ?_) (fun c6 => ?_)
      · replace h := h.1 c6
        exact hJ53  _ _ _ _ hS (lv_sub hl [0, 1] rfl) h
      · replace h := h.2 c6
        refine lv_aload_n hx hb ddX5_keeps_31 rfl (lv_at hl 0 rfl) ?_
        refine get_25_1 hx hb hown ht hK hS lk1125 ddX5_keeps_32 ?_
        refine lv_iload_n hx hb ddX5_keeps_35 rfl (lv_at hl 2 rfl) ?_
        refine lv_aload_n hx hb ddX5_keeps_36 rfl (lv_at hl 0 rfl) ?_
        refine get_25_1 hx hb hown ht hK hS lk1125 ddX5_keeps_37 ?_
        refine lv_iload_n hx hb ddX5_keeps_40 rfl (lv_at hl 2 rfl) ?_
        refine lv_sipush (v := (179 : Int32)) hx hb ddX5_keeps_41 (by decide) ?_
        refine lv_iadd hx hb ddX5_keeps_44 ?_
        refine ald_27 hx hb hK hS h.1 ddX5_keeps_45 ?_
        replace h := h.2
        refine ast_27 hx hb hK hS h.1 ddX5_keeps_46 (fun H locs hS => ?_)
        replace h := h.2
        obtain ⟨σ8, eσ8⟩ : ∃ y : Mem, y = (st σ 27 x2.toNatClampNeg (σ 27 (x2 + (179 : Int32)).toNatClampNeg)) := ⟨_, rfl⟩
        rw [← eσ8] at hS
        replace h := h σ8 eσ8
        obtain ⟨v9, ev9⟩ : ∃ y : Int32, y = x2 + (1 : Int32) := ⟨_, rfl⟩
        replace h := h v9 ev9
        refine lv_iinc (v := v9) (lv' := [(2, .int v9), (0, .ref (ga X 25)), (1, .ref (ga X 26))]) hx hb ddX5_keeps_47 hl (k := 2) rfl (by rw [ev9]; rfl) (by decide) rfl (fun ls hl => ?_)
        refine lv_goto (tgt := 24) hx hb ddX5_keeps_50 (by decide) ?_
        exact ih24 _ _ _ _ _ hS (lv_sub hl [1, 2, 0] rfl) h
  unfold wp_X5_keeps_26 at h
  refine lv_aload_n hx hb ddX5_keeps_0 rfl (lv_at hl 0 rfl) ?_
  refine lv_iconst (v := (0 : Int32)) hx hb ddX5_keeps_1 (by decide) ?_
  refine put_25_7 hx hb hown ht hK hS lk1131 ddX5_keeps_2 (fun H locs hS => ?_)
  obtain ⟨σ1, eσ1⟩ : ∃ y : Mem, y = (st σ 25 7 (0 : Int32)) := ⟨_, rfl⟩
  rw [← eσ1] at hS
  replace h := h σ1 eσ1
  refine lv_aload_n hx hb ddX5_keeps_5 rfl (lv_at hl 0 rfl) ?_
  refine get_25_6 hx hb hown ht hK hS lk1130 ddX5_keeps_6 ?_
  refine lv_if_eq (tgt := 13) hx hb ddX5_keeps_9 (by decide) (fun c2 => ?_) (fun c2 => ?_)
  · replace h := h.1 c2
    refine lv_aload_n hx hb ddX5_keeps_13 rfl (lv_at hl 0 rfl) ?_
    refine get_25_5 hx hb hown ht hK hS lk1129 ddX5_keeps_14 ?_
    refine lv_bipush (v := (8 : Int32)) hx hb ddX5_keeps_17 (by decide) ?_
    refine lv_icmp_ne (tgt := 63) hx hb ddX5_keeps_19 (by decide) (fun c3 => ?_) (fun c3 => ?_)
    · replace h := h.1 c3
      exact hJ63  _ _ _ _ hS (lv_sub hl [0, 1] rfl) h
    · replace h := h.2 c3
      refine lv_iconst (v := (0 : Int32)) hx hb ddX5_keeps_22 (by decide) ?_
      refine lv_istore_n (lv' := [(2, .int (0 : Int32)), (0, .ref (ga X 25)), (1, .ref (ga X 26))]) hx hb ddX5_keeps_23 rfl hl (by decide) rfl (fun ls hl => ?_)
      obtain ⟨n, h⟩ := h
      exact hL24 n _ _ _ _ _ hS (lv_sub hl [1, 2, 0] rfl) h
  · replace h := h.2 c2
    exact k_vret hx hb hr hlocks hK hS h ddX5_keeps_12

set_option maxHeartbeats 4000000 in
set_option maxRecDepth 100000 in
theorem c_X5_keeps_29 (l : Launch) (X : GX) {σ : Mem} {K : Mem → Prop} (h : wp_X5_keeps_29 σ K) : MV l X yX5_keeps cX5_keeps 3 ((Option.none : Option Jvm.ClassFile.FieldType)) ({ frames := 1, cells := 0, slots := 0, locals := 24 } : Room) [.ref (ga X 25), .ref (ga X 29)] σ K := by
  refine ent_met (QQ := fun A => va_Qv K (BW X A) A) (by decide) (Nat.le_of_ble_eq_true rfl) ?_
  intro p e s m args below meth c A ls hx hb hr hlocks hml hown ht hK hZ hA hS hl
  have hown : s.vm.findClass "GuardRosterModel" = some m.cls := hown
  have hl : lv_has ls 3 [(0, .ref (ga X 25)), (1, .ref (ga X 29))] := hl
  have hJ63 : ∀ (σ : Mem) (H : Heap) (locs : List Loc) (ls : Array Slot), WS X A s.heap σ H locs → lv_has ls 3 [(0, .ref (ga X 25)), (1, .ref (ga X 29))] → wpJ_X5_keeps_29_63 K σ → WV X K p l e ({ frames := 1, cells := 0, slots := 0, locals := 24 } : Room) s m args below meth c A H locs (F0 m 63 ls []) := by
    intro  σ H locs ls hS hl h
    unfold wpJ_X5_keeps_29_63 at h
    refine lv_aload_n hx hb ddX5_keeps_63 rfl (lv_at hl 1 rfl) ?_
    refine lv_iconst (v := (0 : Int32)) hx hb ddX5_keeps_64 (by decide) ?_
    refine lv_aload_n hx hb ddX5_keeps_65 rfl (lv_at hl 0 rfl) ?_
    refine get_25_1 hx hb hown ht hK hS lk1125 ddX5_keeps_66 ?_
    refine lv_sipush (v := (179 : Int32)) hx hb ddX5_keeps_69 (by decide) ?_
    refine lv_aload_n hx hb ddX5_keeps_72 rfl (lv_at hl 0 rfl) ?_
    refine get_25_5 hx hb hown ht hK hS lk1129 ddX5_keeps_73 ?_
    refine lv_imul hx hb ddX5_keeps_76 ?_
    refine k_SV (As := [.ref (ga X 29), .int (0 : Int32), .ref (ga X 27), .int ((179 : Int32) * (σ 25 5))]) (rest := []) (c_X5_copies_29_27 l X h) mf_X5_copies lk1207 hx hb hml hown ht hK hZ hS hA ⟨rfl, rfl⟩ ⟨Nat.le_of_ble_eq_true rfl, Nat.le_of_ble_eq_true rfl⟩ rfl hl.1 rfl (Nat.le_of_ble_eq_true rfl) ⟨Nat.le_of_ble_eq_true rfl, Nat.le_of_ble_eq_true rfl⟩ ddX5_keeps_77 (fun σ4 H locs hS h => ?_)
    refine lv_aload_n hx hb ddX5_keeps_80 rfl (lv_at hl 0 rfl) ?_
    refine lv_dup hx hb ddX5_keeps_81 rfl ?_
    refine get_25_5 hx hb hown ht hK hS lk1129 ddX5_keeps_82 ?_
    refine lv_iconst (v := (1 : Int32)) hx hb ddX5_keeps_85 (by decide) ?_
    refine lv_iadd hx hb ddX5_keeps_86 ?_
    refine put_25_5 hx hb hown ht hK hS lk1129 ddX5_keeps_87 (fun H locs hS => ?_)
    obtain ⟨σ5, eσ5⟩ : ∃ y : Mem, y = (st σ4 25 5 ((σ4 25 5) + (1 : Int32))) := ⟨_, rfl⟩
    rw [← eσ5] at hS
    replace h := h σ5 eσ5
    exact k_vret hx hb hr hlocks hK hS h ddX5_keeps_90
  have hJ53 : ∀ (σ : Mem) (H : Heap) (locs : List Loc) (ls : Array Slot), WS X A s.heap σ H locs → lv_has ls 3 [(0, .ref (ga X 25)), (1, .ref (ga X 29))] → wpJ_X5_keeps_29_53 K σ → WV X K p l e ({ frames := 1, cells := 0, slots := 0, locals := 24 } : Room) s m args below meth c A H locs (F0 m 53 ls []) := by
    intro  σ H locs ls hS hl h
    unfold wpJ_X5_keeps_29_53 at h
    refine lv_aload_n hx hb ddX5_keeps_53 rfl (lv_at hl 0 rfl) ?_
    refine lv_dup hx hb ddX5_keeps_54 rfl ?_
    refine get_25_5 hx hb hown ht hK hS lk1129 ddX5_keeps_55 ?_
    refine lv_iconst (v := (1 : Int32)) hx hb ddX5_keeps_58 (by decide) ?_
    refine lv_isub hx hb ddX5_keeps_59 ?_
    refine put_25_5 hx hb hown ht hK hS lk1129 ddX5_keeps_60 (fun H locs hS => ?_)
    obtain ⟨σ7, eσ7⟩ : ∃ y : Mem, y = (st σ 25 5 ((σ 25 5) - (1 : Int32))) := ⟨_, rfl⟩
    rw [← eσ7] at hS
    replace h := h σ7 eσ7
    exact hJ63  _ _ _ _ hS (lv_sub hl [0, 1] rfl) h
  have hL24 : ∀ (n : Nat) (x2 : Int32) (σ : Mem) (H : Heap) (locs : List Loc) (ls : Array Slot), WS X A s.heap σ H locs → lv_has ls 3 [(0, .ref (ga X 25)), (1, .ref (ga X 29)), (2, .int x2)] → wlp (wpF_X5_keeps_29_24 K) n (x2, σ) → WV X K p l e ({ frames := 1, cells := 0, slots := 0, locals := 24 } : Room) s m args below meth c A H locs (F0 m 24 ls []) := by
    intro n24
    induction n24 with
    | zero => intro x2 σ H locs ls hS hl h; exact h.elim
    | succ n24 ih24 =>
      intro x2 σ H locs ls hS hl h
      replace h : wpS_X5_keeps_29_24 K (wlp (wpF_X5_keeps_29_24 K) n24) x2 σ := h
      unfold wpS_X5_keeps_29_24 at h
      refine lv_iload_n hx hb ddX5_keeps_24 rfl (lv_at hl 2 rfl) ?_
      refine lv_sipush (v := (1253 : Int32)) hx hb ddX5_keeps_25 (by decide) ?_
      refine lv_icmp_ge (tgt := 53) hx hb ddX5_keeps_28 (by decide) (fun c6 => ?_) (fun c6 => ?_)
      · replace h := h.1 c6
        exact hJ53  _ _ _ _ hS (lv_sub hl [0, 1] rfl) h
      · replace h := h.2 c6
        refine lv_aload_n hx hb ddX5_keeps_31 rfl (lv_at hl 0 rfl) ?_
        refine get_25_1 hx hb hown ht hK hS lk1125 ddX5_keeps_32 ?_
        refine lv_iload_n hx hb ddX5_keeps_35 rfl (lv_at hl 2 rfl) ?_
        refine lv_aload_n hx hb ddX5_keeps_36 rfl (lv_at hl 0 rfl) ?_
        refine get_25_1 hx hb hown ht hK hS lk1125 ddX5_keeps_37 ?_
        refine lv_iload_n hx hb ddX5_keeps_40 rfl (lv_at hl 2 rfl) ?_
        refine lv_sipush (v := (179 : Int32)) hx hb ddX5_keeps_41 (by decide) ?_
        refine lv_iadd hx hb ddX5_keeps_44 ?_
        refine ald_27 hx hb hK hS h.1 ddX5_keeps_45 ?_
        replace h := h.2
        refine ast_27 hx hb hK hS h.1 ddX5_keeps_46 (fun H locs hS => ?_)
        replace h := h.2
        obtain ⟨σ8, eσ8⟩ : ∃ y : Mem, y = (st σ 27 x2.toNatClampNeg (σ 27 (x2 + (179 : Int32)).toNatClampNeg)) := ⟨_, rfl⟩
        rw [← eσ8] at hS
        replace h := h σ8 eσ8
        obtain ⟨v9, ev9⟩ : ∃ y : Int32, y = x2 + (1 : Int32) := ⟨_, rfl⟩
        replace h := h v9 ev9
        refine lv_iinc (v := v9) (lv' := [(2, .int v9), (0, .ref (ga X 25)), (1, .ref (ga X 29))]) hx hb ddX5_keeps_47 hl (k := 2) rfl (by rw [ev9]; rfl) (by decide) rfl (fun ls hl => ?_)
        refine lv_goto (tgt := 24) hx hb ddX5_keeps_50 (by decide) ?_
        exact ih24 _ _ _ _ _ hS (lv_sub hl [1, 2, 0] rfl) h
  unfold wp_X5_keeps_29 at h
  refine lv_aload_n hx hb ddX5_keeps_0 rfl (lv_at hl 0 rfl) ?_
  refine lv_iconst (v := (0 : Int32)) hx hb ddX5_keeps_1 (by decide) ?_
  refine put_25_7 hx hb hown ht hK hS lk1131 ddX5_keeps_2 (fun H locs hS => ?_)
  obtain ⟨σ1, eσ1⟩ : ∃ y : Mem, y = (st σ 25 7 (0 : Int32)) := ⟨_, rfl⟩
  rw [← eσ1] at hS
  replace h := h σ1 eσ1
  refine lv_aload_n hx hb ddX5_keeps_5 rfl (lv_at hl 0 rfl) ?_
  refine get_25_6 hx hb hown ht hK hS lk1130 ddX5_keeps_6 ?_
  refine lv_if_eq (tgt := 13) hx hb ddX5_keeps_9 (by decide) (fun c2 => ?_) (fun c2 => ?_)
  · replace h := h.1 c2
    refine lv_aload_n hx hb ddX5_keeps_13 rfl (lv_at hl 0 rfl) ?_
    refine get_25_5 hx hb hown ht hK hS lk1129 ddX5_keeps_14 ?_
    refine lv_bipush (v := (8 : Int32)) hx hb ddX5_keeps_17 (by decide) ?_
    refine lv_icmp_ne (tgt := 63) hx hb ddX5_keeps_19 (by decide) (fun c3 => ?_) (fun c3 => ?_)
    · replace h := h.1 c3
      exact hJ63  _ _ _ _ hS (lv_sub hl [0, 1] rfl) h
    · replace h := h.2 c3
      refine lv_iconst (v := (0 : Int32)) hx hb ddX5_keeps_22 (by decide) ?_
      refine lv_istore_n (lv' := [(2, .int (0 : Int32)), (0, .ref (ga X 25)), (1, .ref (ga X 29))]) hx hb ddX5_keeps_23 rfl hl (by decide) rfl (fun ls hl => ?_)
      obtain ⟨n, h⟩ := h
      exact hL24 n _ _ _ _ _ hS (lv_sub hl [1, 2, 0] rfl) h
  · replace h := h.2 c2
    exact k_vret hx hb hr hlocks hK hS h ddX5_keeps_12

set_option maxHeartbeats 4000000 in
set_option maxRecDepth 100000 in
theorem c_X5_isGate (l : Launch) (X : GX) {x1 : Int32} {σ : Mem} {K : Int32 → Mem → Prop} (h : wp_X5_isGate x1 σ K) : MI l X yX5_isGate cX5_isGate 2 ((Option.some Jvm.ClassFile.FieldType.boolean)) ({ frames := 1, cells := 0, slots := 0, locals := 22 } : Room) [.ref (ga X 25), .int x1] σ K := by
  refine ent_met (QQ := fun A => va_Qi K (BW X A) A) (by decide) (Nat.le_of_ble_eq_true rfl) ?_
  intro p e s m args below meth c A ls hx hb hr hlocks hml hown ht hK hZ hA hS hl
  have hown : s.vm.findClass "GuardRosterModel" = some m.cls := hown
  have hl : lv_has ls 2 [(0, .ref (ga X 25)), (1, .int x1)] := hl
  unfold wp_X5_isGate at h
  refine lv_iload_n hx hb ddX5_isGate_0 rfl (lv_at hl 1 rfl) ?_
  refine lv_iconst (v := (0 : Int32)) hx hb ddX5_isGate_1 (by decide) ?_
  refine lv_aload_n hx hb ddX5_isGate_2 rfl (lv_at hl 0 rfl) ?_
  refine get_25_0 hx hb hown ht hK hS lk1124 ddX5_isGate_3 ?_
  refine lv_iconst (v := (0 : Int32)) hx hb ddX5_isGate_6 (by decide) ?_
  refine aldk_26 hx hb hK hS 0 (by unfold vp_in; decide) rfl ddX5_isGate_7 ?_
  refine lv_iconst (v := (1 : Int32)) hx hb ddX5_isGate_8 (by decide) ?_
  refine lv_isub hx hb ddX5_isGate_9 ?_
  refine k_SI (As := [.int x1, .int (0 : Int32), .int ((σ 26 0) - (1 : Int32))]) (rest := []) (c_X5_in l X h) mf_X5_in lk1196 hx hb hml hown ht hK hZ hS hA ⟨rfl, rfl⟩ ⟨Nat.le_of_ble_eq_true rfl, Nat.le_of_ble_eq_true rfl⟩ rfl hl.1 rfl (Nat.le_of_ble_eq_true rfl) ⟨Nat.le_of_ble_eq_true rfl, Nat.le_of_ble_eq_true rfl⟩ ddX5_isGate_10 (fun r2 σ1 H locs hS h => ?_)
  exact k_zret hx hb hr hlocks hK hS h.1 h.2 ddX5_isGate_13

set_option maxHeartbeats 4000000 in
set_option maxRecDepth 100000 in
theorem c_X5_isGuard (l : Launch) (X : GX) {x1 : Int32} {σ : Mem} {K : Int32 → Mem → Prop} (h : wp_X5_isGuard x1 σ K) : MI l X yX5_isGuard cX5_isGuard 2 ((Option.some Jvm.ClassFile.FieldType.boolean)) ({ frames := 1, cells := 0, slots := 0, locals := 22 } : Room) [.ref (ga X 25), .int x1] σ K := by
  refine ent_met (QQ := fun A => va_Qi K (BW X A) A) (by decide) (Nat.le_of_ble_eq_true rfl) ?_
  intro p e s m args below meth c A ls hx hb hr hlocks hml hown ht hK hZ hA hS hl
  have hown : s.vm.findClass "GuardRosterModel" = some m.cls := hown
  have hl : lv_has ls 2 [(0, .ref (ga X 25)), (1, .int x1)] := hl
  unfold wp_X5_isGuard at h
  refine lv_iload_n hx hb ddX5_isGuard_0 rfl (lv_at hl 1 rfl) ?_
  refine lv_iconst (v := (0 : Int32)) hx hb ddX5_isGuard_1 (by decide) ?_
  refine lv_aload_n hx hb ddX5_isGuard_2 rfl (lv_at hl 0 rfl) ?_
  refine get_25_0 hx hb hown ht hK hS lk1124 ddX5_isGuard_3 ?_
  refine lv_iconst (v := (1 : Int32)) hx hb ddX5_isGuard_6 (by decide) ?_
  refine aldk_26 hx hb hK hS 1 (by unfold vp_in; decide) rfl ddX5_isGuard_7 ?_
  refine lv_iconst (v := (1 : Int32)) hx hb ddX5_isGuard_8 (by decide) ?_
  refine lv_isub hx hb ddX5_isGuard_9 ?_
  refine k_SI (As := [.int x1, .int (0 : Int32), .int ((σ 26 1) - (1 : Int32))]) (rest := []) (c_X5_in l X h) mf_X5_in lk1196 hx hb hml hown ht hK hZ hS hA ⟨rfl, rfl⟩ ⟨Nat.le_of_ble_eq_true rfl, Nat.le_of_ble_eq_true rfl⟩ rfl hl.1 rfl (Nat.le_of_ble_eq_true rfl) ⟨Nat.le_of_ble_eq_true rfl, Nat.le_of_ble_eq_true rfl⟩ ddX5_isGuard_10 (fun r2 σ1 H locs hS h => ?_)
  exact k_zret hx hb hr hlocks hK hS h.1 h.2 ddX5_isGuard_13

set_option maxHeartbeats 4000000 in
set_option maxRecDepth 100000 in
theorem c_X5_isSlot (l : Launch) (X : GX) {x0 : Int32} {σ : Mem} {K : Int32 → Mem → Prop} (h : wp_X5_isSlot x0 σ K) : MI l X yX5_isSlot cX5_isSlot 1 ((Option.some Jvm.ClassFile.FieldType.boolean)) ({ frames := 1, cells := 0, slots := 0, locals := 22 } : Room) [.int x0] σ K := by
  refine ent_met (QQ := fun A => va_Qi K (BW X A) A) (by decide) (Nat.le_of_ble_eq_true rfl) ?_
  intro p e s m args below meth c A ls hx hb hr hlocks hml hown ht hK hZ hA hS hl
  have hown : s.vm.findClass "GuardRosterModel" = some m.cls := hown
  have hl : lv_has ls 1 [(0, .int x0)] := hl
  unfold wp_X5_isSlot at h
  refine lv_iload_n hx hb ddX5_isSlot_0 rfl (lv_at hl 0 rfl) ?_
  refine lv_iconst (v := (0 : Int32)) hx hb ddX5_isSlot_1 (by decide) ?_
  refine lv_bipush (v := (27 : Int32)) hx hb ddX5_isSlot_2 (by decide) ?_
  refine k_SI (As := [.int x0, .int (0 : Int32), .int (27 : Int32)]) (rest := []) (c_X5_in l X h) mf_X5_in lk1196 hx hb hml hown ht hK hZ hS hA ⟨rfl, rfl⟩ ⟨Nat.le_of_ble_eq_true rfl, Nat.le_of_ble_eq_true rfl⟩ rfl hl.1 rfl (Nat.le_of_ble_eq_true rfl) ⟨Nat.le_of_ble_eq_true rfl, Nat.le_of_ble_eq_true rfl⟩ ddX5_isSlot_4 (fun r2 σ1 H locs hS h => ?_)
  exact k_zret hx hb hr hlocks hK hS h.1 h.2 ddX5_isSlot_7

set_option maxHeartbeats 4000000 in
set_option maxRecDepth 100000 in
theorem c_X5_arePlace (l : Launch) (X : GX) {x1 x2 : Int32} {σ : Mem} {K : Int32 → Mem → Prop} (h : wp_X5_arePlace x1 x2 σ K) : MI l X yX5_arePlace cX5_arePlace 3 ((Option.some Jvm.ClassFile.FieldType.boolean)) ({ frames := 2, cells := 0, slots := 0, locals := 43 } : Room) [.ref (ga X 25), .int x1, .int x2] σ K := by
  refine ent_met (QQ := fun A => va_Qi K (BW X A) A) (by decide) (Nat.le_of_ble_eq_true rfl) ?_
  intro p e s m args below meth c A ls hx hb hr hlocks hml hown ht hK hZ hA hS hl
  have hown : s.vm.findClass "GuardRosterModel" = some m.cls := hown
  have hl : lv_has ls 3 [(0, .ref (ga X 25)), (1, .int x1), (2, .int x2)] := hl
  unfold wp_X5_arePlace at h
  refine lv_aload_n hx hb ddX5_arePlace_0 rfl (lv_at hl 0 rfl) ?_
  refine lv_iload_n hx hb ddX5_arePlace_1 rfl (lv_at hl 1 rfl) ?_
  refine k_VI (As := [.int x1]) (rest := []) (c_X5_isGate l X h) mf_X5_isGate lk1226 hx hb hml hown ht hK hZ hS hA 25 5 rfl rfl rfl ⟨rfl, rfl⟩ ⟨Nat.le_of_ble_eq_true rfl, Nat.le_of_ble_eq_true rfl⟩ rfl hl.1 rfl (Nat.le_of_ble_eq_true rfl) ⟨Nat.le_of_ble_eq_true rfl, Nat.le_of_ble_eq_true rfl⟩ ddX5_arePlace_2 (fun r2 σ1 H locs hS h => ?_)
  refine lv_if_eq (tgt := 19) hx hb ddX5_arePlace_5 (by decide) (fun c3 => ?_) (fun c3 => ?_)
  · replace h := h.1 c3
    refine lv_iconst (v := (0 : Int32)) hx hb ddX5_arePlace_19 (by decide) ?_
    exact k_zret hx hb hr hlocks hK hS rfl h ddX5_arePlace_20
  · replace h := h.2 c3
    refine lv_iload_n hx hb ddX5_arePlace_8 rfl (lv_at hl 2 rfl) ?_
    refine k_SI (As := [.int x2]) (rest := []) (c_X5_isSlot l X h) mf_X5_isSlot lk1258 hx hb hml hown ht hK hZ hS hA ⟨rfl, rfl⟩ ⟨Nat.le_of_ble_eq_true rfl, Nat.le_of_ble_eq_true rfl⟩ rfl hl.1 rfl (Nat.le_of_ble_eq_true rfl) ⟨Nat.le_of_ble_eq_true rfl, Nat.le_of_ble_eq_true rfl⟩ ddX5_arePlace_9 (fun r5 σ4 H locs hS h => ?_)
    refine lv_if_eq (tgt := 19) hx hb ddX5_arePlace_12 (by decide) (fun c6 => ?_) (fun c6 => ?_)
    · replace h := h.1 c6
      refine lv_iconst (v := (0 : Int32)) hx hb ddX5_arePlace_19 (by decide) ?_
      exact k_zret hx hb hr hlocks hK hS rfl h ddX5_arePlace_20
    · replace h := h.2 c6
      refine lv_iconst (v := (1 : Int32)) hx hb ddX5_arePlace_15 (by decide) ?_
      refine lv_goto (tgt := 20) hx hb ddX5_arePlace_16 (by decide) ?_
      exact k_zret hx hb hr hlocks hK hS rfl h ddX5_arePlace_20

set_option maxHeartbeats 4000000 in
set_option maxRecDepth 100000 in
theorem c_X5_ranked (l : Launch) (X : GX) {x1 : Int32} {σ : Mem} {K : Int32 → Mem → Prop} (h : wp_X5_ranked x1 σ K) : MI l X yX5_ranked cX5_ranked 2 ((Option.some Jvm.ClassFile.FieldType.int)) ({ frames := 0, cells := 0, slots := 0, locals := 0 } : Room) [.ref (ga X 25), .int x1] σ K := by
  refine ent_met (QQ := fun A => va_Qi K (BW X A) A) (by decide) (Nat.le_of_ble_eq_true rfl) ?_
  intro p e s m args below meth c A ls hx hb hr hlocks hml hown ht hK hZ hA hS hl
  have hown : s.vm.findClass "GuardRosterModel" = some m.cls := hown
  have hl : lv_has ls 2 [(0, .ref (ga X 25)), (1, .int x1)] := hl
  unfold wp_X5_ranked at h
  refine lv_aload_n hx hb ddX5_ranked_0 rfl (lv_at hl 0 rfl) ?_
  refine get_25_0 hx hb hown ht hK hS lk1124 ddX5_ranked_1 ?_
  refine lv_bipush (v := (9 : Int32)) hx hb ddX5_ranked_4 (by decide) ?_
  refine lv_iconst (v := (2 : Int32)) hx hb ddX5_ranked_6 (by decide) ?_
  refine lv_iload_n hx hb ddX5_ranked_7 rfl (lv_at hl 1 rfl) ?_
  refine lv_imul hx hb ddX5_ranked_8 ?_
  refine lv_iadd hx hb ddX5_ranked_9 ?_
  refine ald_26 hx hb hK hS h.1 ddX5_ranked_10 ?_
  replace h := h.2
  exact k_iret hx hb hr hlocks hK hS h ddX5_ranked_11

set_option maxHeartbeats 4000000 in
set_option maxRecDepth 100000 in
theorem c_X5_who (l : Launch) (X : GX) {x1 x2 : Int32} {σ : Mem} {K : Int32 → Mem → Prop} (h : wp_X5_who x1 x2 σ K) : MI l X yX5_who cX5_who 3 ((Option.some Jvm.ClassFile.FieldType.int)) ({ frames := 0, cells := 0, slots := 0, locals := 0 } : Room) [.ref (ga X 25), .int x1, .int x2] σ K := by
  refine ent_met (QQ := fun A => va_Qi K (BW X A) A) (by decide) (Nat.le_of_ble_eq_true rfl) ?_
  intro p e s m args below meth c A ls hx hb hr hlocks hml hown ht hK hZ hA hS hl
  have hown : s.vm.findClass "GuardRosterModel" = some m.cls := hown
  have hl : lv_has ls 3 [(0, .ref (ga X 25)), (1, .int x1), (2, .int x2)] := hl
  unfold wp_X5_who at h
  refine lv_aload_n hx hb ddX5_who_0 rfl (lv_at hl 0 rfl) ?_
  refine get_25_0 hx hb hown ht hK hS lk1124 ddX5_who_1 ?_
  refine lv_bipush (v := (39 : Int32)) hx hb ddX5_who_4 (by decide) ?_
  refine lv_bipush (v := (28 : Int32)) hx hb ddX5_who_6 (by decide) ?_
  refine lv_iload_n hx hb ddX5_who_8 rfl (lv_at hl 1 rfl) ?_
  refine lv_imul hx hb ddX5_who_9 ?_
  refine lv_iadd hx hb ddX5_who_10 ?_
  refine lv_iload_n hx hb ddX5_who_11 rfl (lv_at hl 2 rfl) ?_
  refine lv_iadd hx hb ddX5_who_12 ?_
  refine ald_26 hx hb hK hS h.1 ddX5_who_13 ?_
  replace h := h.2
  exact k_iret hx hb hr hlocks hK hS h ddX5_who_14

set_option maxHeartbeats 4000000 in
set_option maxRecDepth 100000 in
theorem c_X5_puts (l : Launch) (X : GX) {x1 x2 x3 : Int32} {σ : Mem} {K : Mem → Prop} (h : wp_X5_puts x1 x2 x3 σ K) : MV l X yX5_puts cX5_puts 4 ((Option.none : Option Jvm.ClassFile.FieldType)) ({ frames := 0, cells := 0, slots := 0, locals := 0 } : Room) [.ref (ga X 25), .int x1, .int x2, .int x3] σ K := by
  refine ent_met (QQ := fun A => va_Qv K (BW X A) A) (by decide) (Nat.le_of_ble_eq_true rfl) ?_
  intro p e s m args below meth c A ls hx hb hr hlocks hml hown ht hK hZ hA hS hl
  have hown : s.vm.findClass "GuardRosterModel" = some m.cls := hown
  have hl : lv_has ls 4 [(0, .ref (ga X 25)), (1, .int x1), (2, .int x2), (3, .int x3)] := hl
  unfold wp_X5_puts at h
  refine lv_aload_n hx hb ddX5_puts_0 rfl (lv_at hl 0 rfl) ?_
  refine get_25_0 hx hb hown ht hK hS lk1124 ddX5_puts_1 ?_
  refine lv_bipush (v := (39 : Int32)) hx hb ddX5_puts_4 (by decide) ?_
  refine lv_bipush (v := (28 : Int32)) hx hb ddX5_puts_6 (by decide) ?_
  refine lv_iload_n hx hb ddX5_puts_8 rfl (lv_at hl 1 rfl) ?_
  refine lv_imul hx hb ddX5_puts_9 ?_
  refine lv_iadd hx hb ddX5_puts_10 ?_
  refine lv_iload_n hx hb ddX5_puts_11 rfl (lv_at hl 2 rfl) ?_
  refine lv_iadd hx hb ddX5_puts_12 ?_
  refine lv_iload_n hx hb ddX5_puts_13 rfl (lv_at hl 3 rfl) ?_
  refine ast_26 hx hb hK hS h.1 ddX5_puts_14 (fun H locs hS => ?_)
  replace h := h.2
  obtain ⟨σ1, eσ1⟩ : ∃ y : Mem, y = (st σ 26 (((39 : Int32) + ((28 : Int32) * x1)) + x2).toNatClampNeg x3) := ⟨_, rfl⟩
  rw [← eσ1] at hS
  replace h := h σ1 eσ1
  exact k_vret hx hb hr hlocks hK hS h ddX5_puts_15

set_option maxHeartbeats 4000000 in
set_option maxRecDepth 100000 in
theorem c_X5_where (l : Launch) (X : GX) {x1 x2 : Int32} {σ : Mem} {K : Int32 → Mem → Prop} (h : wp_X5_where x1 x2 σ K) : MI l X yX5_where cX5_where 4 ((Option.some Jvm.ClassFile.FieldType.int)) ({ frames := 2, cells := 0, slots := 0, locals := 42 } : Room) [.ref (ga X 25), .int x1, .int x2] σ K := by
  refine ent_met (QQ := fun A => va_Qi K (BW X A) A) (by decide) (Nat.le_of_ble_eq_true rfl) ?_
  intro p e s m args below meth c A ls hx hb hr hlocks hml hown ht hK hZ hA hS hl
  have hown : s.vm.findClass "GuardRosterModel" = some m.cls := hown
  have hl : lv_has ls 4 [(0, .ref (ga X 25)), (1, .int x1), (2, .int x2)] := hl
  have hL2 : ∀ (n : Nat) (x1 x2 x3 : Int32) (σ : Mem) (H : Heap) (locs : List Loc) (ls : Array Slot), WS X A s.heap σ H locs → lv_has ls 4 [(0, .ref (ga X 25)), (1, .int x1), (2, .int x2), (3, .int x3)] → wlp (wpF_X5_where_2 K) n (x1, x2, x3, σ) → WI X K p l e ({ frames := 2, cells := 0, slots := 0, locals := 42 } : Room) s m args below meth c A H locs (F0 m 2 ls []) := by
    intro n2
    induction n2 with
    | zero => intro x1 x2 x3 σ H locs ls hS hl h; exact h.elim
    | succ n2 ih2 =>
      intro x1 x2 x3 σ H locs ls hS hl h
      replace h : wpS_X5_where_2 K (wlp (wpF_X5_where_2 K) n2) x1 x2 x3 σ := h
      unfold wpS_X5_where_2 at h
      refine lv_iload_n hx hb ddX5_where_2 rfl (lv_at hl 3 rfl) ?_
      refine lv_aload_n hx hb ddX5_where_3 rfl (lv_at hl 0 rfl) ?_
      refine get_25_0 hx hb hown ht hK hS lk1124 ddX5_where_4 ?_
      refine lv_iconst (v := (0 : Int32)) hx hb ddX5_where_7 (by decide) ?_
      refine aldk_26 hx hb hK hS 0 (by unfold vp_in; decide) rfl ddX5_where_8 ?_
      refine lv_icmp_ge (tgt := 37) hx hb ddX5_where_9 (by decide) (fun c1 => ?_) (fun c1 => ?_)
      · replace h := h.1 c1
        refine lv_iconst (v := (-1 : Int32)) hx hb ddX5_where_37 (by decide) ?_
        exact k_iret hx hb hr hlocks hK hS h ddX5_where_38
      · replace h := h.2 c1
        refine lv_iload_n hx hb ddX5_where_12 rfl (lv_at hl 2 rfl) ?_
        refine k_SI (As := [.int x2]) (rest := []) (c_X5_isSlot l X h) mf_X5_isSlot lk1258 hx hb hml hown ht hK hZ hS hA ⟨rfl, rfl⟩ ⟨Nat.le_of_ble_eq_true rfl, Nat.le_of_ble_eq_true rfl⟩ rfl hl.1 rfl (Nat.le_of_ble_eq_true rfl) ⟨Nat.le_of_ble_eq_true rfl, Nat.le_of_ble_eq_true rfl⟩ ddX5_where_13 (fun r3 σ2 H locs hS h => ?_)
        refine lv_if_eq (tgt := 37) hx hb ddX5_where_16 (by decide) (fun c4 => ?_) (fun c4 => ?_)
        · replace h := h.1 c4
          refine lv_iconst (v := (-1 : Int32)) hx hb ddX5_where_37 (by decide) ?_
          exact k_iret hx hb hr hlocks hK hS h ddX5_where_38
        · replace h := h.2 c4
          refine lv_aload_n hx hb ddX5_where_19 rfl (lv_at hl 0 rfl) ?_
          refine lv_iload_n hx hb ddX5_where_20 rfl (lv_at hl 3 rfl) ?_
          refine lv_iload_n hx hb ddX5_where_21 rfl (lv_at hl 2 rfl) ?_
          refine k_VI (As := [.int x3, .int x2]) (rest := []) (c_X5_who l X h) mf_X5_who lk1269 hx hb hml hown ht hK hZ hS hA 25 5 rfl rfl rfl ⟨rfl, rfl⟩ ⟨Nat.le_of_ble_eq_true rfl, Nat.le_of_ble_eq_true rfl⟩ rfl hl.1 rfl (Nat.le_of_ble_eq_true rfl) ⟨Nat.le_of_ble_eq_true rfl, Nat.le_of_ble_eq_true rfl⟩ ddX5_where_22 (fun r6 σ5 H locs hS h => ?_)
          refine lv_iload_n hx hb ddX5_where_25 rfl (lv_at hl 1 rfl) ?_
          refine lv_icmp_ne (tgt := 31) hx hb ddX5_where_26 (by decide) (fun c7 => ?_) (fun c7 => ?_)
          · replace h := h.1 c7
            obtain ⟨v8, ev8⟩ : ∃ y : Int32, y = x3 + (1 : Int32) := ⟨_, rfl⟩
            replace h := h v8 ev8
            refine lv_iinc (v := v8) (lv' := [(3, .int v8), (0, .ref (ga X 25)), (1, .int x1), (2, .int x2)]) hx hb ddX5_where_31 hl (k := 3) rfl (by rw [ev8]; rfl) (by decide) rfl (fun ls hl => ?_)
            refine lv_goto (tgt := 2) hx hb ddX5_where_34 (by decide) ?_
            exact ih2 _ _ _ _ _ _ _ hS (lv_sub hl [1, 2, 3, 0] rfl) h
          · replace h := h.2 c7
            refine lv_iload_n hx hb ddX5_where_29 rfl (lv_at hl 3 rfl) ?_
            exact k_iret hx hb hr hlocks hK hS h ddX5_where_30
  unfold wp_X5_where at h
  refine lv_iconst (v := (0 : Int32)) hx hb ddX5_where_0 (by decide) ?_
  refine lv_istore_n (lv' := [(3, .int (0 : Int32)), (0, .ref (ga X 25)), (1, .int x1), (2, .int x2)]) hx hb ddX5_where_1 rfl hl (by decide) rfl (fun ls hl => ?_)
  obtain ⟨n, h⟩ := h
  exact hL2 n _ _ _ _ _ _ _ hS (lv_sub hl [1, 2, 3, 0] rfl) h

set_option maxHeartbeats 4000000 in
set_option maxRecDepth 100000 in
theorem c_X5_isOff (l : Launch) (X : GX) {x1 x2 : Int32} {σ : Mem} {K : Int32 → Mem → Prop} (h : wp_X5_isOff x1 x2 σ K) : MI l X yX5_isOff cX5_isOff 3 ((Option.some Jvm.ClassFile.FieldType.boolean)) ({ frames := 0, cells := 0, slots := 0, locals := 0 } : Room) [.ref (ga X 25), .int x1, .int x2] σ K := by
  refine ent_met (QQ := fun A => va_Qi K (BW X A) A) (by decide) (Nat.le_of_ble_eq_true rfl) ?_
  intro p e s m args below meth c A ls hx hb hr hlocks hml hown ht hK hZ hA hS hl
  have hown : s.vm.findClass "GuardRosterModel" = some m.cls := hown
  have hl : lv_has ls 3 [(0, .ref (ga X 25)), (1, .int x1), (2, .int x2)] := hl
  unfold wp_X5_isOff at h
  refine lv_aload_n hx hb ddX5_isOff_0 rfl (lv_at hl 0 rfl) ?_
  refine get_25_0 hx hb hown ht hK hS lk1124 ddX5_isOff_1 ?_
  refine lv_bipush (v := (29 : Int32)) hx hb ddX5_isOff_4 (by decide) ?_
  refine lv_iload_n hx hb ddX5_isOff_6 rfl (lv_at hl 1 rfl) ?_
  refine lv_iadd hx hb ddX5_isOff_7 ?_
  refine ald_26 hx hb hK hS h.1 ddX5_isOff_8 ?_
  replace h := h.2
  refine lv_iload_n hx hb ddX5_isOff_9 rfl (lv_at hl 2 rfl) ?_
  refine lv_ishr hx hb ddX5_isOff_10 ?_
  refine lv_iconst (v := (1 : Int32)) hx hb ddX5_isOff_11 (by decide) ?_
  refine lv_iand hx hb ddX5_isOff_12 ?_
  refine lv_iconst (v := (1 : Int32)) hx hb ddX5_isOff_13 (by decide) ?_
  refine lv_icmp_ne (tgt := 21) hx hb ddX5_isOff_14 (by decide) (fun c1 => ?_) (fun c1 => ?_)
  · replace h := h.1 c1
    refine lv_iconst (v := (0 : Int32)) hx hb ddX5_isOff_21 (by decide) ?_
    exact k_zret hx hb hr hlocks hK hS rfl h ddX5_isOff_22
  · replace h := h.2 c1
    refine lv_iconst (v := (1 : Int32)) hx hb ddX5_isOff_17 (by decide) ?_
    refine lv_goto (tgt := 22) hx hb ddX5_isOff_18 (by decide) ?_
    exact k_zret hx hb hr hlocks hK hS rfl h ddX5_isOff_22

set_option maxHeartbeats 4000000 in
set_option maxRecDepth 100000 in
theorem c_X5_addGate (l : Launch) (X : GX) {x1 : Int32} {σ : Mem} {K : Int32 → Mem → Prop} (h : wp_X5_addGate x1 σ K) : MI l X yX5_addGate cX5_addGate 2 ((Option.some Jvm.ClassFile.FieldType.int)) ({ frames := 2, cells := 0, slots := 0, locals := 46 } : Room) [.ref (ga X 25), .int x1] σ K := by
  refine ent_met (QQ := fun A => va_Qi K (BW X A) A) (by decide) (Nat.le_of_ble_eq_true rfl) ?_
  intro p e s m args below meth c A ls hx hb hr hlocks hml hown ht hK hZ hA hS hl
  have hown : s.vm.findClass "GuardRosterModel" = some m.cls := hown
  have hl : lv_has ls 2 [(0, .ref (ga X 25)), (1, .int x1)] := hl
  have hJ30 : ∀ (x1 y1 : Int32) (σ : Mem) (H : Heap) (locs : List Loc) (ls : Array Slot), WS X A s.heap σ H locs → lv_has ls 2 [(0, .ref (ga X 25)), (1, .int x1)] → wpJ_X5_addGate_30 K x1 y1 σ → WI X K p l e ({ frames := 2, cells := 0, slots := 0, locals := 46 } : Room) s m args below meth c A H locs (F0 m 30 ls [.int y1, .ref (ga X 25)]) := by
    intro x1 y1 σ H locs ls hS hl h
    unfold wpJ_X5_addGate_30 at h
    refine k_VI (As := [.int y1]) (rest := []) (c_X5_fails l X h) mf_X5_fails lk1199 hx hb hml hown ht hK hZ hS hA 25 5 rfl rfl rfl ⟨rfl, rfl⟩ ⟨Nat.le_of_ble_eq_true rfl, Nat.le_of_ble_eq_true rfl⟩ rfl hl.1 rfl (Nat.le_of_ble_eq_true rfl) ⟨Nat.le_of_ble_eq_true rfl, Nat.le_of_ble_eq_true rfl⟩ ddX5_addGate_30 (fun r6 σ5 H locs hS h => ?_)
    refine lv_if_eq (tgt := 38) hx hb ddX5_addGate_33 (by decide) (fun c7 => ?_) (fun c7 => ?_)
    · replace h := h.1 c7
      refine lv_aload_n hx hb ddX5_addGate_38 rfl (lv_at hl 0 rfl) ?_
      refine lv_aload_n hx hb ddX5_addGate_39 rfl (lv_at hl 0 rfl) ?_
      refine get_25_0 hx hb hown ht hK hS lk1124 ddX5_addGate_40 ?_
      refine k_VV (As := [.ref (ga X 26)]) (rest := []) (c_X5_keeps_26 l X h) mf_X5_keeps lk1203 hx hb hml hown ht hK hZ hS hA 25 5 rfl rfl rfl ⟨rfl, rfl⟩ ⟨Nat.le_of_ble_eq_true rfl, Nat.le_of_ble_eq_true rfl⟩ rfl hl.1 rfl (Nat.le_of_ble_eq_true rfl) ⟨Nat.le_of_ble_eq_true rfl, Nat.le_of_ble_eq_true rfl⟩ ddX5_addGate_43 (fun σ8 H locs hS h => ?_)
      refine lv_aload_n hx hb ddX5_addGate_46 rfl (lv_at hl 0 rfl) ?_
      refine get_25_0 hx hb hown ht hK hS lk1124 ddX5_addGate_47 ?_
      refine lv_iconst (v := (4 : Int32)) hx hb ddX5_addGate_50 (by decide) ?_
      refine lv_aload_n hx hb ddX5_addGate_51 rfl (lv_at hl 0 rfl) ?_
      refine get_25_0 hx hb hown ht hK hS lk1124 ddX5_addGate_52 ?_
      refine lv_iconst (v := (0 : Int32)) hx hb ddX5_addGate_55 (by decide) ?_
      refine aldk_26 hx hb hK hS 0 (by unfold vp_in; decide) rfl ddX5_addGate_56 ?_
      refine lv_iadd hx hb ddX5_addGate_57 ?_
      refine lv_iload_n hx hb ddX5_addGate_58 rfl (lv_at hl 1 rfl) ?_
      refine ast_26 hx hb hK hS h.1 ddX5_addGate_59 (fun H locs hS => ?_)
      replace h := h.2
      obtain ⟨σ9, eσ9⟩ : ∃ y : Mem, y = (st σ8 26 ((4 : Int32) + (σ8 26 0)).toNatClampNeg x1) := ⟨_, rfl⟩
      rw [← eσ9] at hS
      replace h := h σ9 eσ9
      refine lv_aload_n hx hb ddX5_addGate_60 rfl (lv_at hl 0 rfl) ?_
      refine get_25_0 hx hb hown ht hK hS lk1124 ddX5_addGate_61 ?_
      refine lv_iconst (v := (0 : Int32)) hx hb ddX5_addGate_64 (by decide) ?_
      refine lv_dup2_11 hx hb ddX5_addGate_65 rfl rfl ?_
      refine aldk_26 hx hb hK hS 0 (by unfold vp_in; decide) rfl ddX5_addGate_66 ?_
      refine lv_iconst (v := (1 : Int32)) hx hb ddX5_addGate_67 (by decide) ?_
      refine lv_iadd hx hb ddX5_addGate_68 ?_
      refine astk_26 hx hb hK hS 0 (by unfold vp_in; decide) rfl ddX5_addGate_69 (fun H locs hS => ?_)
      obtain ⟨σ10, eσ10⟩ : ∃ y : Mem, y = (st σ9 26 0 ((σ9 26 0) + (1 : Int32))) := ⟨_, rfl⟩
      rw [← eσ10] at hS
      replace h := h σ10 eσ10
      refine lv_aload_n hx hb ddX5_addGate_70 rfl (lv_at hl 0 rfl) ?_
      refine get_25_0 hx hb hown ht hK hS lk1124 ddX5_addGate_71 ?_
      refine lv_iconst (v := (0 : Int32)) hx hb ddX5_addGate_74 (by decide) ?_
      refine aldk_26 hx hb hK hS 0 (by unfold vp_in; decide) rfl ddX5_addGate_75 ?_
      refine lv_iconst (v := (1 : Int32)) hx hb ddX5_addGate_76 (by decide) ?_
      refine lv_isub hx hb ddX5_addGate_77 ?_
      exact k_iret hx hb hr hlocks hK hS h ddX5_addGate_78
    · replace h := h.2 c7
      refine lv_iconst (v := (0 : Int32)) hx hb ddX5_addGate_36 (by decide) ?_
      exact k_iret hx hb hr hlocks hK hS h ddX5_addGate_37
  unfold wp_X5_addGate at h
  refine lv_aload_n hx hb ddX5_addGate_0 rfl (lv_at hl 0 rfl) ?_
  refine lv_iload_n hx hb ddX5_addGate_1 rfl (lv_at hl 1 rfl) ?_
  refine lv_iconst (v := (1 : Int32)) hx hb ddX5_addGate_2 (by decide) ?_
  refine lv_bipush (v := (9 : Int32)) hx hb ddX5_addGate_3 (by decide) ?_
  refine k_SI (As := [.int x1, .int (1 : Int32), .int (9 : Int32)]) (rest := [.ref (ga X 25)]) (c_X5_in l X h) mf_X5_in lk1196 hx hb hml hown ht hK hZ hS hA ⟨rfl, rfl⟩ ⟨Nat.le_of_ble_eq_true rfl, Nat.le_of_ble_eq_true rfl⟩ rfl hl.1 rfl (Nat.le_of_ble_eq_true rfl) ⟨Nat.le_of_ble_eq_true rfl, Nat.le_of_ble_eq_true rfl⟩ ddX5_addGate_5 (fun r2 σ1 H locs hS h => ?_)
  refine lv_if_ne (tgt := 15) hx hb ddX5_addGate_8 (by decide) (fun c3 => ?_) (fun c3 => ?_)
  · replace h := h.1 c3
    refine lv_aload_n hx hb ddX5_addGate_15 rfl (lv_at hl 0 rfl) ?_
    refine get_25_0 hx hb hown ht hK hS lk1124 ddX5_addGate_16 ?_
    refine lv_iconst (v := (0 : Int32)) hx hb ddX5_addGate_19 (by decide) ?_
    refine aldk_26 hx hb hK hS 0 (by unfold vp_in; decide) rfl ddX5_addGate_20 ?_
    refine lv_iconst (v := (5 : Int32)) hx hb ddX5_addGate_21 (by decide) ?_
    refine lv_icmp_ne (tgt := 29) hx hb ddX5_addGate_22 (by decide) (fun c4 => ?_) (fun c4 => ?_)
    · replace h := h.1 c4
      refine lv_iconst (v := (0 : Int32)) hx hb ddX5_addGate_29 (by decide) ?_
      exact hJ30 _ _ _ _ _ _ hS (lv_sub hl [0, 1] rfl) h
    · replace h := h.2 c4
      refine lv_iconst (v := (2 : Int32)) hx hb ddX5_addGate_25 (by decide) ?_
      refine lv_goto (tgt := 30) hx hb ddX5_addGate_26 (by decide) ?_
      exact hJ30 _ _ _ _ _ _ hS (lv_sub hl [0, 1] rfl) h
  · replace h := h.2 c3
    refine lv_iconst (v := (1 : Int32)) hx hb ddX5_addGate_11 (by decide) ?_
    refine lv_goto (tgt := 30) hx hb ddX5_addGate_12 (by decide) ?_
    exact hJ30 _ _ _ _ _ _ hS (lv_sub hl [0, 1] rfl) h

set_option maxHeartbeats 4000000 in
set_option maxRecDepth 100000 in
theorem c_X5_addGuard (l : Launch) (X : GX) {x1 : Int32} {σ : Mem} {K : Int32 → Mem → Prop} (h : wp_X5_addGuard x1 σ K) : MI l X yX5_addGuard cX5_addGuard 2 ((Option.some Jvm.ClassFile.FieldType.int)) ({ frames := 2, cells := 0, slots := 0, locals := 46 } : Room) [.ref (ga X 25), .int x1] σ K := by
  refine ent_met (QQ := fun A => va_Qi K (BW X A) A) (by decide) (Nat.le_of_ble_eq_true rfl) ?_
  intro p e s m args below meth c A ls hx hb hr hlocks hml hown ht hK hZ hA hS hl
  have hown : s.vm.findClass "GuardRosterModel" = some m.cls := hown
  have hl : lv_has ls 2 [(0, .ref (ga X 25)), (1, .int x1)] := hl
  have hJ31 : ∀ (x1 y1 : Int32) (σ : Mem) (H : Heap) (locs : List Loc) (ls : Array Slot), WS X A s.heap σ H locs → lv_has ls 2 [(0, .ref (ga X 25)), (1, .int x1)] → wpJ_X5_addGuard_31 K x1 y1 σ → WI X K p l e ({ frames := 2, cells := 0, slots := 0, locals := 46 } : Room) s m args below meth c A H locs (F0 m 31 ls [.int y1, .ref (ga X 25)]) := by
    intro x1 y1 σ H locs ls hS hl h
    unfold wpJ_X5_addGuard_31 at h
    refine k_VI (As := [.int y1]) (rest := []) (c_X5_fails l X h) mf_X5_fails lk1199 hx hb hml hown ht hK hZ hS hA 25 5 rfl rfl rfl ⟨rfl, rfl⟩ ⟨Nat.le_of_ble_eq_true rfl, Nat.le_of_ble_eq_true rfl⟩ rfl hl.1 rfl (Nat.le_of_ble_eq_true rfl) ⟨Nat.le_of_ble_eq_true rfl, Nat.le_of_ble_eq_true rfl⟩ ddX5_addGuard_31 (fun r6 σ5 H locs hS h => ?_)
    refine lv_if_eq (tgt := 39) hx hb ddX5_addGuard_34 (by decide) (fun c7 => ?_) (fun c7 => ?_)
    · replace h := h.1 c7
      refine lv_aload_n hx hb ddX5_addGuard_39 rfl (lv_at hl 0 rfl) ?_
      refine lv_aload_n hx hb ddX5_addGuard_40 rfl (lv_at hl 0 rfl) ?_
      refine get_25_0 hx hb hown ht hK hS lk1124 ddX5_addGuard_41 ?_
      refine k_VV (As := [.ref (ga X 26)]) (rest := []) (c_X5_keeps_26 l X h) mf_X5_keeps lk1203 hx hb hml hown ht hK hZ hS hA 25 5 rfl rfl rfl ⟨rfl, rfl⟩ ⟨Nat.le_of_ble_eq_true rfl, Nat.le_of_ble_eq_true rfl⟩ rfl hl.1 rfl (Nat.le_of_ble_eq_true rfl) ⟨Nat.le_of_ble_eq_true rfl, Nat.le_of_ble_eq_true rfl⟩ ddX5_addGuard_44 (fun σ8 H locs hS h => ?_)
      refine lv_aload_n hx hb ddX5_addGuard_47 rfl (lv_at hl 0 rfl) ?_
      refine get_25_0 hx hb hown ht hK hS lk1124 ddX5_addGuard_48 ?_
      refine lv_bipush (v := (9 : Int32)) hx hb ddX5_addGuard_51 (by decide) ?_
      refine lv_iconst (v := (2 : Int32)) hx hb ddX5_addGuard_53 (by decide) ?_
      refine lv_aload_n hx hb ddX5_addGuard_54 rfl (lv_at hl 0 rfl) ?_
      refine get_25_0 hx hb hown ht hK hS lk1124 ddX5_addGuard_55 ?_
      refine lv_iconst (v := (1 : Int32)) hx hb ddX5_addGuard_58 (by decide) ?_
      refine aldk_26 hx hb hK hS 1 (by unfold vp_in; decide) rfl ddX5_addGuard_59 ?_
      refine lv_imul hx hb ddX5_addGuard_60 ?_
      refine lv_iadd hx hb ddX5_addGuard_61 ?_
      refine lv_iload_n hx hb ddX5_addGuard_62 rfl (lv_at hl 1 rfl) ?_
      refine ast_26 hx hb hK hS h.1 ddX5_addGuard_63 (fun H locs hS => ?_)
      replace h := h.2
      obtain ⟨σ9, eσ9⟩ : ∃ y : Mem, y = (st σ8 26 ((9 : Int32) + ((2 : Int32) * (σ8 26 1))).toNatClampNeg x1) := ⟨_, rfl⟩
      rw [← eσ9] at hS
      replace h := h σ9 eσ9
      refine lv_aload_n hx hb ddX5_addGuard_64 rfl (lv_at hl 0 rfl) ?_
      refine get_25_0 hx hb hown ht hK hS lk1124 ddX5_addGuard_65 ?_
      refine lv_iconst (v := (1 : Int32)) hx hb ddX5_addGuard_68 (by decide) ?_
      refine lv_dup2_11 hx hb ddX5_addGuard_69 rfl rfl ?_
      refine aldk_26 hx hb hK hS 1 (by unfold vp_in; decide) rfl ddX5_addGuard_70 ?_
      refine lv_iconst (v := (1 : Int32)) hx hb ddX5_addGuard_71 (by decide) ?_
      refine lv_iadd hx hb ddX5_addGuard_72 ?_
      refine astk_26 hx hb hK hS 1 (by unfold vp_in; decide) rfl ddX5_addGuard_73 (fun H locs hS => ?_)
      obtain ⟨σ10, eσ10⟩ : ∃ y : Mem, y = (st σ9 26 1 ((σ9 26 1) + (1 : Int32))) := ⟨_, rfl⟩
      rw [← eσ10] at hS
      replace h := h σ10 eσ10
      refine lv_aload_n hx hb ddX5_addGuard_74 rfl (lv_at hl 0 rfl) ?_
      refine get_25_0 hx hb hown ht hK hS lk1124 ddX5_addGuard_75 ?_
      refine lv_iconst (v := (1 : Int32)) hx hb ddX5_addGuard_78 (by decide) ?_
      refine aldk_26 hx hb hK hS 1 (by unfold vp_in; decide) rfl ddX5_addGuard_79 ?_
      refine lv_iconst (v := (1 : Int32)) hx hb ddX5_addGuard_80 (by decide) ?_
      refine lv_isub hx hb ddX5_addGuard_81 ?_
      exact k_iret hx hb hr hlocks hK hS h ddX5_addGuard_82
    · replace h := h.2 c7
      refine lv_iconst (v := (0 : Int32)) hx hb ddX5_addGuard_37 (by decide) ?_
      exact k_iret hx hb hr hlocks hK hS h ddX5_addGuard_38
  unfold wp_X5_addGuard at h
  refine lv_aload_n hx hb ddX5_addGuard_0 rfl (lv_at hl 0 rfl) ?_
  refine lv_iload_n hx hb ddX5_addGuard_1 rfl (lv_at hl 1 rfl) ?_
  refine lv_iconst (v := (1 : Int32)) hx hb ddX5_addGuard_2 (by decide) ?_
  refine lv_bipush (v := (9 : Int32)) hx hb ddX5_addGuard_3 (by decide) ?_
  refine k_SI (As := [.int x1, .int (1 : Int32), .int (9 : Int32)]) (rest := [.ref (ga X 25)]) (c_X5_in l X h) mf_X5_in lk1196 hx hb hml hown ht hK hZ hS hA ⟨rfl, rfl⟩ ⟨Nat.le_of_ble_eq_true rfl, Nat.le_of_ble_eq_true rfl⟩ rfl hl.1 rfl (Nat.le_of_ble_eq_true rfl) ⟨Nat.le_of_ble_eq_true rfl, Nat.le_of_ble_eq_true rfl⟩ ddX5_addGuard_5 (fun r2 σ1 H locs hS h => ?_)
  refine lv_if_ne (tgt := 15) hx hb ddX5_addGuard_8 (by decide) (fun c3 => ?_) (fun c3 => ?_)
  · replace h := h.1 c3
    refine lv_aload_n hx hb ddX5_addGuard_15 rfl (lv_at hl 0 rfl) ?_
    refine get_25_0 hx hb hown ht hK hS lk1124 ddX5_addGuard_16 ?_
    refine lv_iconst (v := (1 : Int32)) hx hb ddX5_addGuard_19 (by decide) ?_
    refine aldk_26 hx hb hK hS 1 (by unfold vp_in; decide) rfl ddX5_addGuard_20 ?_
    refine lv_bipush (v := (10 : Int32)) hx hb ddX5_addGuard_21 (by decide) ?_
    refine lv_icmp_ne (tgt := 30) hx hb ddX5_addGuard_23 (by decide) (fun c4 => ?_) (fun c4 => ?_)
    · replace h := h.1 c4
      refine lv_iconst (v := (0 : Int32)) hx hb ddX5_addGuard_30 (by decide) ?_
      exact hJ31 _ _ _ _ _ _ hS (lv_sub hl [0, 1] rfl) h
    · replace h := h.2 c4
      refine lv_iconst (v := (2 : Int32)) hx hb ddX5_addGuard_26 (by decide) ?_
      refine lv_goto (tgt := 31) hx hb ddX5_addGuard_27 (by decide) ?_
      exact hJ31 _ _ _ _ _ _ hS (lv_sub hl [0, 1] rfl) h
  · replace h := h.2 c3
    refine lv_iconst (v := (1 : Int32)) hx hb ddX5_addGuard_11 (by decide) ?_
    refine lv_goto (tgt := 31) hx hb ddX5_addGuard_12 (by decide) ?_
    exact hJ31 _ _ _ _ _ _ hS (lv_sub hl [0, 1] rfl) h

set_option maxHeartbeats 4000000 in
set_option maxRecDepth 100000 in
theorem c_X5_gateCount (l : Launch) (X : GX) {σ : Mem} {K : Int32 → Mem → Prop} (h : wp_X5_gateCount σ K) : MI l X yX5_gateCount cX5_gateCount 1 ((Option.some Jvm.ClassFile.FieldType.int)) ({ frames := 0, cells := 0, slots := 0, locals := 0 } : Room) [.ref (ga X 25)] σ K := by
  refine ent_met (QQ := fun A => va_Qi K (BW X A) A) (by decide) (Nat.le_of_ble_eq_true rfl) ?_
  intro p e s m args below meth c A ls hx hb hr hlocks hml hown ht hK hZ hA hS hl
  have hown : s.vm.findClass "GuardRosterModel" = some m.cls := hown
  have hl : lv_has ls 1 [(0, .ref (ga X 25))] := hl
  unfold wp_X5_gateCount at h
  refine lv_aload_n hx hb ddX5_gateCount_0 rfl (lv_at hl 0 rfl) ?_
  refine lv_iconst (v := (0 : Int32)) hx hb ddX5_gateCount_1 (by decide) ?_
  refine put_25_7 hx hb hown ht hK hS lk1131 ddX5_gateCount_2 (fun H locs hS => ?_)
  obtain ⟨σ1, eσ1⟩ : ∃ y : Mem, y = (st σ 25 7 (0 : Int32)) := ⟨_, rfl⟩
  rw [← eσ1] at hS
  replace h := h σ1 eσ1
  refine lv_aload_n hx hb ddX5_gateCount_5 rfl (lv_at hl 0 rfl) ?_
  refine get_25_0 hx hb hown ht hK hS lk1124 ddX5_gateCount_6 ?_
  refine lv_iconst (v := (0 : Int32)) hx hb ddX5_gateCount_9 (by decide) ?_
  refine aldk_26 hx hb hK hS 0 (by unfold vp_in; decide) rfl ddX5_gateCount_10 ?_
  exact k_iret hx hb hr hlocks hK hS h ddX5_gateCount_11

set_option maxHeartbeats 4000000 in
set_option maxRecDepth 100000 in
theorem c_X5_guardCount (l : Launch) (X : GX) {σ : Mem} {K : Int32 → Mem → Prop} (h : wp_X5_guardCount σ K) : MI l X yX5_guardCount cX5_guardCount 1 ((Option.some Jvm.ClassFile.FieldType.int)) ({ frames := 0, cells := 0, slots := 0, locals := 0 } : Room) [.ref (ga X 25)] σ K := by
  refine ent_met (QQ := fun A => va_Qi K (BW X A) A) (by decide) (Nat.le_of_ble_eq_true rfl) ?_
  intro p e s m args below meth c A ls hx hb hr hlocks hml hown ht hK hZ hA hS hl
  have hown : s.vm.findClass "GuardRosterModel" = some m.cls := hown
  have hl : lv_has ls 1 [(0, .ref (ga X 25))] := hl
  unfold wp_X5_guardCount at h
  refine lv_aload_n hx hb ddX5_guardCount_0 rfl (lv_at hl 0 rfl) ?_
  refine lv_iconst (v := (0 : Int32)) hx hb ddX5_guardCount_1 (by decide) ?_
  refine put_25_7 hx hb hown ht hK hS lk1131 ddX5_guardCount_2 (fun H locs hS => ?_)
  obtain ⟨σ1, eσ1⟩ : ∃ y : Mem, y = (st σ 25 7 (0 : Int32)) := ⟨_, rfl⟩
  rw [← eσ1] at hS
  replace h := h σ1 eσ1
  refine lv_aload_n hx hb ddX5_guardCount_5 rfl (lv_at hl 0 rfl) ?_
  refine get_25_0 hx hb hown ht hK hS lk1124 ddX5_guardCount_6 ?_
  refine lv_iconst (v := (1 : Int32)) hx hb ddX5_guardCount_9 (by decide) ?_
  refine aldk_26 hx hb hK hS 1 (by unfold vp_in; decide) rfl ddX5_guardCount_10 ?_
  exact k_iret hx hb hr hlocks hK hS h ddX5_guardCount_11

set_option maxHeartbeats 4000000 in
set_option maxRecDepth 100000 in
theorem c_X5_neededRank (l : Launch) (X : GX) {x1 : Int32} {σ : Mem} {K : Int32 → Mem → Prop} (h : wp_X5_neededRank x1 σ K) : MI l X yX5_neededRank cX5_neededRank 2 ((Option.some Jvm.ClassFile.FieldType.int)) ({ frames := 2, cells := 0, slots := 0, locals := 43 } : Room) [.ref (ga X 25), .int x1] σ K := by
  refine ent_met (QQ := fun A => va_Qi K (BW X A) A) (by decide) (Nat.le_of_ble_eq_true rfl) ?_
  intro p e s m args below meth c A ls hx hb hr hlocks hml hown ht hK hZ hA hS hl
  have hown : s.vm.findClass "GuardRosterModel" = some m.cls := hown
  have hl : lv_has ls 2 [(0, .ref (ga X 25)), (1, .int x1)] := hl
  have hJ14 : ∀ (x1 y1 : Int32) (σ : Mem) (H : Heap) (locs : List Loc) (ls : Array Slot), WS X A s.heap σ H locs → lv_has ls 2 [(0, .ref (ga X 25)), (1, .int x1)] → wpJ_X5_neededRank_14 K x1 y1 σ → WI X K p l e ({ frames := 2, cells := 0, slots := 0, locals := 43 } : Room) s m args below meth c A H locs (F0 m 14 ls [.int y1, .ref (ga X 25)]) := by
    intro x1 y1 σ H locs ls hS hl h
    unfold wpJ_X5_neededRank_14 at h
    refine k_VI (As := [.int y1]) (rest := []) (c_X5_fails l X h) mf_X5_fails lk1199 hx hb hml hown ht hK hZ hS hA 25 5 rfl rfl rfl ⟨rfl, rfl⟩ ⟨Nat.le_of_ble_eq_true rfl, Nat.le_of_ble_eq_true rfl⟩ rfl hl.1 rfl (Nat.le_of_ble_eq_true rfl) ⟨Nat.le_of_ble_eq_true rfl, Nat.le_of_ble_eq_true rfl⟩ ddX5_neededRank_14 (fun r5 σ4 H locs hS h => ?_)
    refine lv_if_eq (tgt := 24) hx hb ddX5_neededRank_17 (by decide) (fun c6 => ?_) (fun c6 => ?_)
    · replace h := h.1 c6
      refine lv_aload_n hx hb ddX5_neededRank_24 rfl (lv_at hl 0 rfl) ?_
      refine get_25_0 hx hb hown ht hK hS lk1124 ddX5_neededRank_25 ?_
      refine lv_iconst (v := (4 : Int32)) hx hb ddX5_neededRank_28 (by decide) ?_
      refine lv_iload_n hx hb ddX5_neededRank_29 rfl (lv_at hl 1 rfl) ?_
      refine lv_iadd hx hb ddX5_neededRank_30 ?_
      refine ald_26 hx hb hK hS h.1 ddX5_neededRank_31 ?_
      replace h := h.2
      exact k_iret hx hb hr hlocks hK hS h ddX5_neededRank_32
    · replace h := h.2 c6
      refine lv_iconst (v := (0 : Int32)) hx hb ddX5_neededRank_20 (by decide) ?_
      refine lv_goto (tgt := 32) hx hb ddX5_neededRank_21 (by decide) ?_
      exact k_iret hx hb hr hlocks hK hS h ddX5_neededRank_32
  unfold wp_X5_neededRank at h
  refine lv_aload_n hx hb ddX5_neededRank_0 rfl (lv_at hl 0 rfl) ?_
  refine lv_aload_n hx hb ddX5_neededRank_1 rfl (lv_at hl 0 rfl) ?_
  refine lv_iload_n hx hb ddX5_neededRank_2 rfl (lv_at hl 1 rfl) ?_
  refine k_VI (As := [.int x1]) (rest := [.ref (ga X 25)]) (c_X5_isGate l X h) mf_X5_isGate lk1226 hx hb hml hown ht hK hZ hS hA 25 5 rfl rfl rfl ⟨rfl, rfl⟩ ⟨Nat.le_of_ble_eq_true rfl, Nat.le_of_ble_eq_true rfl⟩ rfl hl.1 rfl (Nat.le_of_ble_eq_true rfl) ⟨Nat.le_of_ble_eq_true rfl, Nat.le_of_ble_eq_true rfl⟩ ddX5_neededRank_3 (fun r2 σ1 H locs hS h => ?_)
  refine lv_if_eq (tgt := 13) hx hb ddX5_neededRank_6 (by decide) (fun c3 => ?_) (fun c3 => ?_)
  · replace h := h.1 c3
    refine lv_iconst (v := (1 : Int32)) hx hb ddX5_neededRank_13 (by decide) ?_
    exact hJ14 _ _ _ _ _ _ hS (lv_sub hl [0, 1] rfl) h
  · replace h := h.2 c3
    refine lv_iconst (v := (0 : Int32)) hx hb ddX5_neededRank_9 (by decide) ?_
    refine lv_goto (tgt := 14) hx hb ddX5_neededRank_10 (by decide) ?_
    exact hJ14 _ _ _ _ _ _ hS (lv_sub hl [0, 1] rfl) h

set_option maxHeartbeats 4000000 in
set_option maxRecDepth 100000 in
theorem c_X5_isNone (l : Launch) (X : GX) {x1 : Int32} {σ : Mem} {K : Int32 → Mem → Prop} (h : wp_X5_isNone x1 σ K) : MI l X yX5_isNone cX5_isNone 2 ((Option.some Jvm.ClassFile.FieldType.boolean)) ({ frames := 2, cells := 0, slots := 0, locals := 43 } : Room) [.ref (ga X 25), .int x1] σ K := by
  refine ent_met (QQ := fun A => va_Qi K (BW X A) A) (by decide) (Nat.le_of_ble_eq_true rfl) ?_
  intro p e s m args below meth c A ls hx hb hr hlocks hml hown ht hK hZ hA hS hl
  have hown : s.vm.findClass "GuardRosterModel" = some m.cls := hown
  have hl : lv_has ls 2 [(0, .ref (ga X 25)), (1, .int x1)] := hl
  unfold wp_X5_isNone at h
  refine lv_aload_n hx hb ddX5_isNone_0 rfl (lv_at hl 0 rfl) ?_
  refine lv_aload_n hx hb ddX5_isNone_1 rfl (lv_at hl 0 rfl) ?_
  refine lv_iload_n hx hb ddX5_isNone_2 rfl (lv_at hl 1 rfl) ?_
  refine k_VI (As := [.int x1]) (rest := [.ref (ga X 25)]) (c_X5_isGuard l X h) mf_X5_isGuard lk1238 hx hb hml hown ht hK hZ hS hA 25 5 rfl rfl rfl ⟨rfl, rfl⟩ ⟨Nat.le_of_ble_eq_true rfl, Nat.le_of_ble_eq_true rfl⟩ rfl hl.1 rfl (Nat.le_of_ble_eq_true rfl) ⟨Nat.le_of_ble_eq_true rfl, Nat.le_of_ble_eq_true rfl⟩ ddX5_isNone_3 (fun r2 σ1 H locs hS h => ?_)
  refine lv_if_eq (tgt := 13) hx hb ddX5_isNone_6 (by decide) (fun c3 => ?_) (fun c3 => ?_)
  · replace h := h.1 c3
    refine lv_iconst (v := (1 : Int32)) hx hb ddX5_isNone_13 (by decide) ?_
    refine k_VI (As := [.int (1 : Int32)]) (rest := []) (c_X5_fails l X h) mf_X5_fails lk1199 hx hb hml hown ht hK hZ hS hA 25 5 rfl rfl rfl ⟨rfl, rfl⟩ ⟨Nat.le_of_ble_eq_true rfl, Nat.le_of_ble_eq_true rfl⟩ rfl hl.1 rfl (Nat.le_of_ble_eq_true rfl) ⟨Nat.le_of_ble_eq_true rfl, Nat.le_of_ble_eq_true rfl⟩ ddX5_isNone_14 (fun r5 σ4 H locs hS h => ?_)
    exact k_zret hx hb hr hlocks hK hS h.1 h.2 ddX5_isNone_17
  · replace h := h.2 c3
    refine lv_iconst (v := (0 : Int32)) hx hb ddX5_isNone_9 (by decide) ?_
    refine lv_goto (tgt := 14) hx hb ddX5_isNone_10 (by decide) ?_
    refine k_VI (As := [.int (0 : Int32)]) (rest := []) (c_X5_fails l X h) mf_X5_fails lk1199 hx hb hml hown ht hK hZ hS hA 25 5 rfl rfl rfl ⟨rfl, rfl⟩ ⟨Nat.le_of_ble_eq_true rfl, Nat.le_of_ble_eq_true rfl⟩ rfl hl.1 rfl (Nat.le_of_ble_eq_true rfl) ⟨Nat.le_of_ble_eq_true rfl, Nat.le_of_ble_eq_true rfl⟩ ddX5_isNone_14 (fun r7 σ6 H locs hS h => ?_)
    exact k_zret hx hb hr hlocks hK hS h.1 h.2 ddX5_isNone_17

set_option maxHeartbeats 4000000 in
set_option maxRecDepth 100000 in
theorem c_X5_rank (l : Launch) (X : GX) {x1 : Int32} {σ : Mem} {K : Int32 → Mem → Prop} (h : wp_X5_rank x1 σ K) : MI l X yX5_rank cX5_rank 2 ((Option.some Jvm.ClassFile.FieldType.int)) ({ frames := 3, cells := 0, slots := 0, locals := 64 } : Room) [.ref (ga X 25), .int x1] σ K := by
  refine ent_met (QQ := fun A => va_Qi K (BW X A) A) (by decide) (Nat.le_of_ble_eq_true rfl) ?_
  intro p e s m args below meth c A ls hx hb hr hlocks hml hown ht hK hZ hA hS hl
  have hown : s.vm.findClass "GuardRosterModel" = some m.cls := hown
  have hl : lv_has ls 2 [(0, .ref (ga X 25)), (1, .int x1)] := hl
  unfold wp_X5_rank at h
  refine lv_aload_n hx hb ddX5_rank_0 rfl (lv_at hl 0 rfl) ?_
  refine lv_iload_n hx hb ddX5_rank_1 rfl (lv_at hl 1 rfl) ?_
  refine k_VI (As := [.int x1]) (rest := []) (c_X5_isNone l X h) mf_X5_isNone lk1234 hx hb hml hown ht hK hZ hS hA 25 5 rfl rfl rfl ⟨rfl, rfl⟩ ⟨Nat.le_of_ble_eq_true rfl, Nat.le_of_ble_eq_true rfl⟩ rfl hl.1 rfl (Nat.le_of_ble_eq_true rfl) ⟨Nat.le_of_ble_eq_true rfl, Nat.le_of_ble_eq_true rfl⟩ ddX5_rank_2 (fun r2 σ1 H locs hS h => ?_)
  refine lv_if_eq (tgt := 12) hx hb ddX5_rank_5 (by decide) (fun c3 => ?_) (fun c3 => ?_)
  · replace h := h.1 c3
    refine lv_aload_n hx hb ddX5_rank_12 rfl (lv_at hl 0 rfl) ?_
    refine lv_iload_n hx hb ddX5_rank_13 rfl (lv_at hl 1 rfl) ?_
    refine k_VI (As := [.int x1]) (rest := []) (c_X5_ranked l X h) mf_X5_ranked lk1242 hx hb hml hown ht hK hZ hS hA 25 5 rfl rfl rfl ⟨rfl, rfl⟩ ⟨Nat.le_of_ble_eq_true rfl, Nat.le_of_ble_eq_true rfl⟩ rfl hl.1 rfl (Nat.le_of_ble_eq_true rfl) ⟨Nat.le_of_ble_eq_true rfl, Nat.le_of_ble_eq_true rfl⟩ ddX5_rank_14 (fun r5 σ4 H locs hS h => ?_)
    exact k_iret hx hb hr hlocks hK hS h ddX5_rank_17
  · replace h := h.2 c3
    refine lv_iconst (v := (0 : Int32)) hx hb ddX5_rank_8 (by decide) ?_
    refine lv_goto (tgt := 17) hx hb ddX5_rank_9 (by decide) ?_
    exact k_iret hx hb hr hlocks hK hS h ddX5_rank_17

set_option maxHeartbeats 4000000 in
set_option maxRecDepth 100000 in
theorem c_X5_faints (l : Launch) (X : GX) {x1 : Int32} {σ : Mem} {K : Int32 → Mem → Prop} (h : wp_X5_faints x1 σ K) : MI l X yX5_faints cX5_faints 2 ((Option.some Jvm.ClassFile.FieldType.int)) ({ frames := 3, cells := 0, slots := 0, locals := 64 } : Room) [.ref (ga X 25), .int x1] σ K := by
  refine ent_met (QQ := fun A => va_Qi K (BW X A) A) (by decide) (Nat.le_of_ble_eq_true rfl) ?_
  intro p e s m args below meth c A ls hx hb hr hlocks hml hown ht hK hZ hA hS hl
  have hown : s.vm.findClass "GuardRosterModel" = some m.cls := hown
  have hl : lv_has ls 2 [(0, .ref (ga X 25)), (1, .int x1)] := hl
  unfold wp_X5_faints at h
  refine lv_aload_n hx hb ddX5_faints_0 rfl (lv_at hl 0 rfl) ?_
  refine lv_iload_n hx hb ddX5_faints_1 rfl (lv_at hl 1 rfl) ?_
  refine k_VI (As := [.int x1]) (rest := []) (c_X5_isNone l X h) mf_X5_isNone lk1234 hx hb hml hown ht hK hZ hS hA 25 5 rfl rfl rfl ⟨rfl, rfl⟩ ⟨Nat.le_of_ble_eq_true rfl, Nat.le_of_ble_eq_true rfl⟩ rfl hl.1 rfl (Nat.le_of_ble_eq_true rfl) ⟨Nat.le_of_ble_eq_true rfl, Nat.le_of_ble_eq_true rfl⟩ ddX5_faints_2 (fun r2 σ1 H locs hS h => ?_)
  refine lv_if_eq (tgt := 12) hx hb ddX5_faints_5 (by decide) (fun c3 => ?_) (fun c3 => ?_)
  · replace h := h.1 c3
    refine lv_aload_n hx hb ddX5_faints_12 rfl (lv_at hl 0 rfl) ?_
    refine get_25_0 hx hb hown ht hK hS lk1124 ddX5_faints_13 ?_
    refine lv_bipush (v := (9 : Int32)) hx hb ddX5_faints_16 (by decide) ?_
    refine lv_iconst (v := (2 : Int32)) hx hb ddX5_faints_18 (by decide) ?_
    refine lv_iload_n hx hb ddX5_faints_19 rfl (lv_at hl 1 rfl) ?_
    refine lv_imul hx hb ddX5_faints_20 ?_
    refine lv_iadd hx hb ddX5_faints_21 ?_
    refine lv_iconst (v := (1 : Int32)) hx hb ddX5_faints_22 (by decide) ?_
    refine lv_iadd hx hb ddX5_faints_23 ?_
    refine ald_26 hx hb hK hS h.1 ddX5_faints_24 ?_
    replace h := h.2
    exact k_iret hx hb hr hlocks hK hS h ddX5_faints_25
  · replace h := h.2 c3
    refine lv_iconst (v := (0 : Int32)) hx hb ddX5_faints_8 (by decide) ?_
    refine lv_goto (tgt := 25) hx hb ddX5_faints_9 (by decide) ?_
    exact k_iret hx hb hr hlocks hK hS h ddX5_faints_25

set_option maxHeartbeats 4000000 in
set_option maxRecDepth 100000 in
theorem c_X5_refuses (l : Launch) (X : GX) {x1 x2 x3 : Int32} {σ : Mem} {K : Int32 → Mem → Prop} (h : wp_X5_refuses x1 x2 x3 σ K) : MI l X yX5_refuses cX5_refuses 4 ((Option.some Jvm.ClassFile.FieldType.int)) ({ frames := 3, cells := 0, slots := 0, locals := 65 } : Room) [.ref (ga X 25), .int x1, .int x2, .int x3] σ K := by
  refine ent_met (QQ := fun A => va_Qi K (BW X A) A) (by decide) (Nat.le_of_ble_eq_true rfl) ?_
  intro p e s m args below meth c A ls hx hb hr hlocks hml hown ht hK hZ hA hS hl
  have hown : s.vm.findClass "GuardRosterModel" = some m.cls := hown
  have hl : lv_has ls 4 [(0, .ref (ga X 25)), (1, .int x1), (2, .int x2), (3, .int x3)] := hl
  unfold wp_X5_refuses at h
  refine lv_aload_n hx hb ddX5_refuses_0 rfl (lv_at hl 0 rfl) ?_
  refine lv_aload_n hx hb ddX5_refuses_1 rfl (lv_at hl 0 rfl) ?_
  refine lv_iload_n hx hb ddX5_refuses_2 rfl (lv_at hl 1 rfl) ?_
  refine lv_iload_n hx hb ddX5_refuses_3 rfl (lv_at hl 2 rfl) ?_
  refine k_VI (As := [.int x1, .int x2]) (rest := [.ref (ga X 25)]) (c_X5_who l X h) mf_X5_who lk1269 hx hb hml hown ht hK hZ hS hA 25 5 rfl rfl rfl ⟨rfl, rfl⟩ ⟨Nat.le_of_ble_eq_true rfl, Nat.le_of_ble_eq_true rfl⟩ rfl hl.1 rfl (Nat.le_of_ble_eq_true rfl) ⟨Nat.le_of_ble_eq_true rfl, Nat.le_of_ble_eq_true rfl⟩ ddX5_refuses_4 (fun r2 σ1 H locs hS h => ?_)
  refine put_25_16 hx hb hown ht hK hS lk1140 ddX5_refuses_7 (fun H locs hS => ?_)
  obtain ⟨σ3, eσ3⟩ : ∃ y : Mem, y = (st σ1 25 16 r2) := ⟨_, rfl⟩
  rw [← eσ3] at hS
  replace h := h σ3 eσ3
  refine lv_aload_n hx hb ddX5_refuses_10 rfl (lv_at hl 0 rfl) ?_
  refine get_25_16 hx hb hown ht hK hS lk1140 ddX5_refuses_11 ?_
  refine lv_if_lt (tgt := 19) hx hb ddX5_refuses_14 (by decide) (fun c4 => ?_) (fun c4 => ?_)
  · replace h := h.1 c4
    refine lv_aload_n hx hb ddX5_refuses_19 rfl (lv_at hl 0 rfl) ?_
    refine lv_aload_n hx hb ddX5_refuses_20 rfl (lv_at hl 0 rfl) ?_
    refine lv_iload_n hx hb ddX5_refuses_21 rfl (lv_at hl 3 rfl) ?_
    refine k_VI (As := [.int x3]) (rest := [.ref (ga X 25)]) (c_X5_ranked l X h) mf_X5_ranked lk1242 hx hb hml hown ht hK hZ hS hA 25 5 rfl rfl rfl ⟨rfl, rfl⟩ ⟨Nat.le_of_ble_eq_true rfl, Nat.le_of_ble_eq_true rfl⟩ rfl hl.1 rfl (Nat.le_of_ble_eq_true rfl) ⟨Nat.le_of_ble_eq_true rfl, Nat.le_of_ble_eq_true rfl⟩ ddX5_refuses_22 (fun r6 σ5 H locs hS h => ?_)
    refine put_25_16 hx hb hown ht hK hS lk1140 ddX5_refuses_25 (fun H locs hS => ?_)
    obtain ⟨σ7, eσ7⟩ : ∃ y : Mem, y = (st σ5 25 16 r6) := ⟨_, rfl⟩
    rw [← eσ7] at hS
    replace h := h σ7 eσ7
    refine lv_aload_n hx hb ddX5_refuses_28 rfl (lv_at hl 0 rfl) ?_
    refine get_25_16 hx hb hown ht hK hS lk1140 ddX5_refuses_29 ?_
    refine lv_aload_n hx hb ddX5_refuses_32 rfl (lv_at hl 0 rfl) ?_
    refine get_25_0 hx hb hown ht hK hS lk1124 ddX5_refuses_33 ?_
    refine lv_iconst (v := (4 : Int32)) hx hb ddX5_refuses_36 (by decide) ?_
    refine lv_iload_n hx hb ddX5_refuses_37 rfl (lv_at hl 1 rfl) ?_
    refine lv_iadd hx hb ddX5_refuses_38 ?_
    refine ald_26 hx hb hK hS h.1 ddX5_refuses_39 ?_
    replace h := h.2
    refine lv_icmp_ge (tgt := 45) hx hb ddX5_refuses_40 (by decide) (fun c8 => ?_) (fun c8 => ?_)
    · replace h := h.1 c8
      refine lv_aload_n hx hb ddX5_refuses_45 rfl (lv_at hl 0 rfl) ?_
      refine lv_iload_n hx hb ddX5_refuses_46 rfl (lv_at hl 2 rfl) ?_
      refine put_25_16 hx hb hown ht hK hS lk1140 ddX5_refuses_47 (fun H locs hS => ?_)
      obtain ⟨σ9, eσ9⟩ : ∃ y : Mem, y = (st σ7 25 16 x2) := ⟨_, rfl⟩
      rw [← eσ9] at hS
      replace h := h σ9 eσ9
      refine lv_aload_n hx hb ddX5_refuses_50 rfl (lv_at hl 0 rfl) ?_
      refine lv_iload_n hx hb ddX5_refuses_51 rfl (lv_at hl 3 rfl) ?_
      refine lv_iload_n hx hb ddX5_refuses_52 rfl (lv_at hl 2 rfl) ?_
      refine k_VI (As := [.int x3, .int x2]) (rest := []) (c_X5_isOff l X h) mf_X5_isOff lk1273 hx hb hml hown ht hK hZ hS hA 25 5 rfl rfl rfl ⟨rfl, rfl⟩ ⟨Nat.le_of_ble_eq_true rfl, Nat.le_of_ble_eq_true rfl⟩ rfl hl.1 rfl (Nat.le_of_ble_eq_true rfl) ⟨Nat.le_of_ble_eq_true rfl, Nat.le_of_ble_eq_true rfl⟩ ddX5_refuses_53 (fun r11 σ10 H locs hS h => ?_)
      refine lv_if_eq (tgt := 61) hx hb ddX5_refuses_56 (by decide) (fun c12 => ?_) (fun c12 => ?_)
      · replace h := h.1 c12
        refine lv_aload_n hx hb ddX5_refuses_61 rfl (lv_at hl 0 rfl) ?_
        refine lv_aload_n hx hb ddX5_refuses_62 rfl (lv_at hl 0 rfl) ?_
        refine lv_iload_n hx hb ddX5_refuses_63 rfl (lv_at hl 3 rfl) ?_
        refine lv_iload_n hx hb ddX5_refuses_64 rfl (lv_at hl 2 rfl) ?_
        refine k_VI (As := [.int x3, .int x2]) (rest := [.ref (ga X 25)]) (c_X5_where l X h) mf_X5_where lk1277 hx hb hml hown ht hK hZ hS hA 25 5 rfl rfl rfl ⟨rfl, rfl⟩ ⟨Nat.le_of_ble_eq_true rfl, Nat.le_of_ble_eq_true rfl⟩ rfl hl.1 rfl (Nat.le_of_ble_eq_true rfl) ⟨Nat.le_of_ble_eq_true rfl, Nat.le_of_ble_eq_true rfl⟩ ddX5_refuses_65 (fun r14 σ13 H locs hS h => ?_)
        refine put_25_16 hx hb hown ht hK hS lk1140 ddX5_refuses_68 (fun H locs hS => ?_)
        obtain ⟨σ15, eσ15⟩ : ∃ y : Mem, y = (st σ13 25 16 r14) := ⟨_, rfl⟩
        rw [← eσ15] at hS
        replace h := h σ15 eσ15
        refine lv_aload_n hx hb ddX5_refuses_71 rfl (lv_at hl 0 rfl) ?_
        refine get_25_16 hx hb hown ht hK hS lk1140 ddX5_refuses_72 ?_
        refine lv_if_lt (tgt := 80) hx hb ddX5_refuses_75 (by decide) (fun c16 => ?_) (fun c16 => ?_)
        · replace h := h.1 c16
          refine lv_aload_n hx hb ddX5_refuses_80 rfl (lv_at hl 0 rfl) ?_
          refine lv_aload_n hx hb ddX5_refuses_81 rfl (lv_at hl 0 rfl) ?_
          refine lv_iload_n hx hb ddX5_refuses_82 rfl (lv_at hl 3 rfl) ?_
          refine lv_iload_n hx hb ddX5_refuses_83 rfl (lv_at hl 2 rfl) ?_
          refine lv_iconst (v := (1 : Int32)) hx hb ddX5_refuses_84 (by decide) ?_
          refine lv_isub hx hb ddX5_refuses_85 ?_
          refine k_VI (As := [.int x3, .int (x2 - (1 : Int32))]) (rest := [.ref (ga X 25)]) (c_X5_where l X h) mf_X5_where lk1277 hx hb hml hown ht hK hZ hS hA 25 5 rfl rfl rfl ⟨rfl, rfl⟩ ⟨Nat.le_of_ble_eq_true rfl, Nat.le_of_ble_eq_true rfl⟩ rfl hl.1 rfl (Nat.le_of_ble_eq_true rfl) ⟨Nat.le_of_ble_eq_true rfl, Nat.le_of_ble_eq_true rfl⟩ ddX5_refuses_86 (fun r18 σ17 H locs hS h => ?_)
          refine put_25_16 hx hb hown ht hK hS lk1140 ddX5_refuses_89 (fun H locs hS => ?_)
          obtain ⟨σ19, eσ19⟩ : ∃ y : Mem, y = (st σ17 25 16 r18) := ⟨_, rfl⟩
          rw [← eσ19] at hS
          replace h := h σ19 eσ19
          refine lv_aload_n hx hb ddX5_refuses_92 rfl (lv_at hl 0 rfl) ?_
          refine get_25_16 hx hb hown ht hK hS lk1140 ddX5_refuses_93 ?_
          refine lv_if_lt (tgt := 101) hx hb ddX5_refuses_96 (by decide) (fun c20 => ?_) (fun c20 => ?_)
          · replace h := h.1 c20
            refine lv_aload_n hx hb ddX5_refuses_101 rfl (lv_at hl 0 rfl) ?_
            refine lv_aload_n hx hb ddX5_refuses_102 rfl (lv_at hl 0 rfl) ?_
            refine lv_iload_n hx hb ddX5_refuses_103 rfl (lv_at hl 3 rfl) ?_
            refine lv_iload_n hx hb ddX5_refuses_104 rfl (lv_at hl 2 rfl) ?_
            refine lv_iconst (v := (1 : Int32)) hx hb ddX5_refuses_105 (by decide) ?_
            refine lv_iadd hx hb ddX5_refuses_106 ?_
            refine k_VI (As := [.int x3, .int (x2 + (1 : Int32))]) (rest := [.ref (ga X 25)]) (c_X5_where l X h) mf_X5_where lk1277 hx hb hml hown ht hK hZ hS hA 25 5 rfl rfl rfl ⟨rfl, rfl⟩ ⟨Nat.le_of_ble_eq_true rfl, Nat.le_of_ble_eq_true rfl⟩ rfl hl.1 rfl (Nat.le_of_ble_eq_true rfl) ⟨Nat.le_of_ble_eq_true rfl, Nat.le_of_ble_eq_true rfl⟩ ddX5_refuses_107 (fun r22 σ21 H locs hS h => ?_)
            refine put_25_16 hx hb hown ht hK hS lk1140 ddX5_refuses_110 (fun H locs hS => ?_)
            obtain ⟨σ23, eσ23⟩ : ∃ y : Mem, y = (st σ21 25 16 r22) := ⟨_, rfl⟩
            rw [← eσ23] at hS
            replace h := h σ23 eσ23
            refine lv_aload_n hx hb ddX5_refuses_113 rfl (lv_at hl 0 rfl) ?_
            refine get_25_16 hx hb hown ht hK hS lk1140 ddX5_refuses_114 ?_
            refine lv_if_lt (tgt := 125) hx hb ddX5_refuses_117 (by decide) (fun c24 => ?_) (fun c24 => ?_)
            · replace h := h.1 c24
              refine lv_iconst (v := (0 : Int32)) hx hb ddX5_refuses_125 (by decide) ?_
              exact k_iret hx hb hr hlocks hK hS h ddX5_refuses_126
            · replace h := h.2 c24
              refine lv_bipush (v := (6 : Int32)) hx hb ddX5_refuses_120 (by decide) ?_
              refine lv_goto (tgt := 126) hx hb ddX5_refuses_122 (by decide) ?_
              exact k_iret hx hb hr hlocks hK hS h ddX5_refuses_126
          · replace h := h.2 c20
            refine lv_iconst (v := (5 : Int32)) hx hb ddX5_refuses_99 (by decide) ?_
            exact k_iret hx hb hr hlocks hK hS h ddX5_refuses_100
        · replace h := h.2 c16
          refine lv_iconst (v := (4 : Int32)) hx hb ddX5_refuses_78 (by decide) ?_
          exact k_iret hx hb hr hlocks hK hS h ddX5_refuses_79
      · replace h := h.2 c12
        refine lv_iconst (v := (3 : Int32)) hx hb ddX5_refuses_59 (by decide) ?_
        exact k_iret hx hb hr hlocks hK hS h ddX5_refuses_60
    · replace h := h.2 c8
      refine lv_iconst (v := (2 : Int32)) hx hb ddX5_refuses_43 (by decide) ?_
      exact k_iret hx hb hr hlocks hK hS h ddX5_refuses_44
  · replace h := h.2 c4
    refine lv_iconst (v := (1 : Int32)) hx hb ddX5_refuses_17 (by decide) ?_
    exact k_iret hx hb hr hlocks hK hS h ddX5_refuses_18

set_option maxHeartbeats 4000000 in
set_option maxRecDepth 100000 in
theorem c_X5_isRefused (l : Launch) (X : GX) {x1 x2 x3 x4 : Int32} {σ : Mem} {K : Int32 → Mem → Prop} (h : wp_X5_isRefused x1 x2 x3 x4 σ K) : MI l X yX5_isRefused cX5_isRefused 6 ((Option.some Jvm.ClassFile.FieldType.boolean)) ({ frames := 4, cells := 0, slots := 0, locals := 88 } : Room) [.ref (ga X 25), .int x1, .int x2, .int x3, .int x4] σ K := by
  refine ent_met (QQ := fun A => va_Qi K (BW X A) A) (by decide) (Nat.le_of_ble_eq_true rfl) ?_
  intro p e s m args below meth c A ls hx hb hr hlocks hml hown ht hK hZ hA hS hl
  have hown : s.vm.findClass "GuardRosterModel" = some m.cls := hown
  have hl : lv_has ls 6 [(0, .ref (ga X 25)), (1, .int x1), (2, .int x2), (3, .int x3), (4, .int x4)] := hl
  unfold wp_X5_isRefused at h
  refine lv_aload_n hx hb ddX5_isRefused_0 rfl (lv_at hl 0 rfl) ?_
  refine lv_iload_n hx hb ddX5_isRefused_1 rfl (lv_at hl 1 rfl) ?_
  refine lv_iload_n hx hb ddX5_isRefused_2 rfl (lv_at hl 2 rfl) ?_
  refine lv_iload_n hx hb ddX5_isRefused_3 rfl (lv_at hl 3 rfl) ?_
  refine k_VI (As := [.int x1, .int x2, .int x3]) (rest := []) (c_X5_refuses l X h) mf_X5_refuses lk1265 hx hb hml hown ht hK hZ hS hA 25 5 rfl rfl rfl ⟨rfl, rfl⟩ ⟨Nat.le_of_ble_eq_true rfl, Nat.le_of_ble_eq_true rfl⟩ rfl hl.1 rfl (Nat.le_of_ble_eq_true rfl) ⟨Nat.le_of_ble_eq_true rfl, Nat.le_of_ble_eq_true rfl⟩ ddX5_isRefused_4 (fun r2 σ1 H locs hS h => ?_)
  refine lv_istore (lv' := [(5, .int r2), (0, .ref (ga X 25)), (1, .int x1), (2, .int x2), (3, .int x3), (4, .int x4)]) hx hb ddX5_isRefused_7 hl (by decide) rfl (fun ls hl => ?_)
  refine lv_iload hx hb ddX5_isRefused_9 (lv_at hl 0 rfl) ?_
  refine lv_if_ne (tgt := 16) hx hb ddX5_isRefused_11 (by decide) (fun c3 => ?_) (fun c3 => ?_)
  · replace h := h.1 c3
    refine lv_aload_n hx hb ddX5_isRefused_16 rfl (lv_at hl 1 rfl) ?_
    refine lv_iload hx hb ddX5_isRefused_17 (lv_at hl 0 rfl) ?_
    refine put_25_8 hx hb hown ht hK hS lk1132 ddX5_isRefused_19 (fun H locs hS => ?_)
    obtain ⟨σ4, eσ4⟩ : ∃ y : Mem, y = (st σ1 25 8 r2) := ⟨_, rfl⟩
    rw [← eσ4] at hS
    replace h := h σ4 eσ4
    refine lv_aload_n hx hb ddX5_isRefused_22 rfl (lv_at hl 1 rfl) ?_
    refine lv_aload_n hx hb ddX5_isRefused_23 rfl (lv_at hl 1 rfl) ?_
    refine get_25_16 hx hb hown ht hK hS lk1140 ddX5_isRefused_24 ?_
    refine put_25_9 hx hb hown ht hK hS lk1133 ddX5_isRefused_27 (fun H locs hS => ?_)
    obtain ⟨σ5, eσ5⟩ : ∃ y : Mem, y = (st σ4 25 9 (σ4 25 16)) := ⟨_, rfl⟩
    rw [← eσ5] at hS
    replace h := h σ5 eσ5
    refine lv_aload_n hx hb ddX5_isRefused_30 rfl (lv_at hl 1 rfl) ?_
    refine lv_iload hx hb ddX5_isRefused_31 (lv_at hl 5 rfl) ?_
    refine put_25_7 hx hb hown ht hK hS lk1131 ddX5_isRefused_33 (fun H locs hS => ?_)
    obtain ⟨σ6, eσ6⟩ : ∃ y : Mem, y = (st σ5 25 7 x4) := ⟨_, rfl⟩
    rw [← eσ6] at hS
    replace h := h σ6 eσ6
    refine lv_iconst (v := (1 : Int32)) hx hb ddX5_isRefused_36 (by decide) ?_
    exact k_zret hx hb hr hlocks hK hS rfl h ddX5_isRefused_37
  · replace h := h.2 c3
    refine lv_iconst (v := (0 : Int32)) hx hb ddX5_isRefused_14 (by decide) ?_
    exact k_zret hx hb hr hlocks hK hS rfl h ddX5_isRefused_15

set_option maxHeartbeats 4000000 in
set_option maxRecDepth 100000 in
theorem c_X5_duties (l : Launch) (X : GX) {x1 : Int32} {σ : Mem} {K : Int32 → Mem → Prop} (h : wp_X5_duties x1 σ K) : MI l X yX5_duties cX5_duties 4 ((Option.some Jvm.ClassFile.FieldType.int)) ({ frames := 0, cells := 0, slots := 0, locals := 0 } : Room) [.ref (ga X 25), .int x1] σ K := by
  refine ent_met (QQ := fun A => va_Qi K (BW X A) A) (by decide) (Nat.le_of_ble_eq_true rfl) ?_
  intro p e s m args below meth c A ls hx hb hr hlocks hml hown ht hK hZ hA hS hl
  have hown : s.vm.findClass "GuardRosterModel" = some m.cls := hown
  have hl : lv_has ls 4 [(0, .ref (ga X 25)), (1, .int x1)] := hl
  have hL4 : ∀ (n : Nat) (x1 x2 x3 : Int32) (σ : Mem) (H : Heap) (locs : List Loc) (ls : Array Slot), WS X A s.heap σ H locs → lv_has ls 4 [(0, .ref (ga X 25)), (1, .int x1), (2, .int x2), (3, .int x3)] → wlp (wpF_X5_duties_4 K) n (x1, x2, x3, σ) → WI X K p l e ({ frames := 0, cells := 0, slots := 0, locals := 0 } : Room) s m args below meth c A H locs (F0 m 4 ls []) := by
    intro n4
    induction n4 with
    | zero => intro x1 x2 x3 σ H locs ls hS hl h; exact h.elim
    | succ n4 ih4 =>
      have hJ36 : ∀ (x1 x3 y0 y1 : Int32) (σ : Mem) (H : Heap) (locs : List Loc) (ls : Array Slot), WS X A s.heap σ H locs → lv_has ls 4 [(0, .ref (ga X 25)), (1, .int x1), (3, .int x3)] → wpJ_X5_duties_36 K (wlp (wpF_X5_duties_4 K) n4) x1 x3 y0 y1 σ → WI X K p l e ({ frames := 0, cells := 0, slots := 0, locals := 0 } : Room) s m args below meth c A H locs (F0 m 36 ls [.int y1, .int y0]) := by
        intro x1 x3 y0 y1 σ H locs ls hS hl h
        unfold wpJ_X5_duties_36 at h
        refine lv_iadd hx hb ddX5_duties_36 ?_
        refine lv_topi (fun v3 ev3 => ?_)
        replace h := h v3 ev3
        refine lv_istore_n (lv' := [(2, .int v3), (0, .ref (ga X 25)), (1, .int x1), (3, .int x3)]) hx hb ddX5_duties_37 rfl hl (by decide) rfl (fun ls hl => ?_)
        obtain ⟨v4, ev4⟩ : ∃ y : Int32, y = x3 + (1 : Int32) := ⟨_, rfl⟩
        replace h := h v4 ev4
        refine lv_iinc (v := v4) (lv' := [(3, .int v4), (2, .int v3), (0, .ref (ga X 25)), (1, .int x1)]) hx hb ddX5_duties_38 hl (k := 3) rfl (by rw [ev4]; rfl) (by decide) rfl (fun ls hl => ?_)
        refine lv_goto (tgt := 4) hx hb ddX5_duties_41 (by decide) ?_
        exact ih4 _ _ _ _ _ _ _ hS (lv_sub hl [2, 3, 1, 0] rfl) h
      intro x1 x2 x3 σ H locs ls hS hl h
      replace h : wpS_X5_duties_4 K (wlp (wpF_X5_duties_4 K) n4) x1 x2 x3 σ := h
      unfold wpS_X5_duties_4 at h
      refine lv_iload_n hx hb ddX5_duties_4 rfl (lv_at hl 3 rfl) ?_
      refine lv_bipush (v := (28 : Int32)) hx hb ddX5_duties_5 (by decide) ?_
      refine lv_aload_n hx hb ddX5_duties_7 rfl (lv_at hl 0 rfl) ?_
      refine get_25_0 hx hb hown ht hK hS lk1124 ddX5_duties_8 ?_
      refine lv_iconst (v := (0 : Int32)) hx hb ddX5_duties_11 (by decide) ?_
      refine aldk_26 hx hb hK hS 0 (by unfold vp_in; decide) rfl ddX5_duties_12 ?_
      refine lv_imul hx hb ddX5_duties_13 ?_
      refine lv_icmp_ge (tgt := 44) hx hb ddX5_duties_14 (by decide) (fun c1 => ?_) (fun c1 => ?_)
      · replace h := h.1 c1
        refine lv_iload_n hx hb ddX5_duties_44 rfl (lv_at hl 2 rfl) ?_
        exact k_iret hx hb hr hlocks hK hS h ddX5_duties_45
      · replace h := h.2 c1
        refine lv_iload_n hx hb ddX5_duties_17 rfl (lv_at hl 2 rfl) ?_
        refine lv_aload_n hx hb ddX5_duties_18 rfl (lv_at hl 0 rfl) ?_
        refine get_25_0 hx hb hown ht hK hS lk1124 ddX5_duties_19 ?_
        refine lv_bipush (v := (39 : Int32)) hx hb ddX5_duties_22 (by decide) ?_
        refine lv_iload_n hx hb ddX5_duties_24 rfl (lv_at hl 3 rfl) ?_
        refine lv_iadd hx hb ddX5_duties_25 ?_
        refine ald_26 hx hb hK hS h.1 ddX5_duties_26 ?_
        replace h := h.2
        refine lv_iload_n hx hb ddX5_duties_27 rfl (lv_at hl 1 rfl) ?_
        refine lv_icmp_ne (tgt := 35) hx hb ddX5_duties_28 (by decide) (fun c2 => ?_) (fun c2 => ?_)
        · replace h := h.1 c2
          refine lv_iconst (v := (0 : Int32)) hx hb ddX5_duties_35 (by decide) ?_
          exact hJ36 _ _ _ _ _ _ _ _ hS (lv_sub hl [0, 1, 3] rfl) h
        · replace h := h.2 c2
          refine lv_iconst (v := (1 : Int32)) hx hb ddX5_duties_31 (by decide) ?_
          refine lv_goto (tgt := 36) hx hb ddX5_duties_32 (by decide) ?_
          exact hJ36 _ _ _ _ _ _ _ _ hS (lv_sub hl [0, 1, 3] rfl) h
  unfold wp_X5_duties at h
  refine lv_iconst (v := (0 : Int32)) hx hb ddX5_duties_0 (by decide) ?_
  refine lv_istore_n (lv' := [(2, .int (0 : Int32)), (0, .ref (ga X 25)), (1, .int x1)]) hx hb ddX5_duties_1 rfl hl (by decide) rfl (fun ls hl => ?_)
  refine lv_iconst (v := (0 : Int32)) hx hb ddX5_duties_2 (by decide) ?_
  refine lv_istore_n (lv' := [(3, .int (0 : Int32)), (2, .int (0 : Int32)), (0, .ref (ga X 25)), (1, .int x1)]) hx hb ddX5_duties_3 rfl hl (by decide) rfl (fun ls hl => ?_)
  obtain ⟨n, h⟩ := h
  exact hL4 n _ _ _ _ _ _ _ hS (lv_sub hl [2, 3, 1, 0] rfl) h

set_option maxHeartbeats 4000000 in
set_option maxRecDepth 100000 in
theorem c_X5_assign (l : Launch) (X : GX) {x1 x2 x3 : Int32} {σ : Mem} {K : Int32 → Mem → Prop} (h : wp_X5_assign x1 x2 x3 σ K) : MI l X yX5_assign cX5_assign 4 ((Option.some Jvm.ClassFile.FieldType.int)) ({ frames := 5, cells := 0, slots := 0, locals := 113 } : Room) [.ref (ga X 25), .int x1, .int x2, .int x3] σ K := by
  refine ent_met (QQ := fun A => va_Qi K (BW X A) A) (by decide) (Nat.le_of_ble_eq_true rfl) ?_
  intro p e s m args below meth c A ls hx hb hr hlocks hml hown ht hK hZ hA hS hl
  have hown : s.vm.findClass "GuardRosterModel" = some m.cls := hown
  have hl : lv_has ls 4 [(0, .ref (ga X 25)), (1, .int x1), (2, .int x2), (3, .int x3)] := hl
  have hJ37 : ∀ (x1 x2 x3 y1 : Int32) (σ : Mem) (H : Heap) (locs : List Loc) (ls : Array Slot), WS X A s.heap σ H locs → lv_has ls 4 [(0, .ref (ga X 25)), (1, .int x1), (2, .int x2), (3, .int x3)] → wpJ_X5_assign_37 K x1 x2 x3 y1 σ → WI X K p l e ({ frames := 5, cells := 0, slots := 0, locals := 113 } : Room) s m args below meth c A H locs (F0 m 37 ls [.int y1, .ref (ga X 25)]) := by
    intro x1 x2 x3 y1 σ H locs ls hS hl h
    unfold wpJ_X5_assign_37 at h
    refine k_VI (As := [.int y1]) (rest := []) (c_X5_fails l X h) mf_X5_fails lk1199 hx hb hml hown ht hK hZ hS hA 25 5 rfl rfl rfl ⟨rfl, rfl⟩ ⟨Nat.le_of_ble_eq_true rfl, Nat.le_of_ble_eq_true rfl⟩ rfl hl.1 rfl (Nat.le_of_ble_eq_true rfl) ⟨Nat.le_of_ble_eq_true rfl, Nat.le_of_ble_eq_true rfl⟩ ddX5_assign_37 (fun r5 σ4 H locs hS h => ?_)
    refine lv_if_eq (tgt := 45) hx hb ddX5_assign_40 (by decide) (fun c6 => ?_) (fun c6 => ?_)
    · replace h := h.1 c6
      refine lv_aload_n hx hb ddX5_assign_45 rfl (lv_at hl 0 rfl) ?_
      refine lv_iload_n hx hb ddX5_assign_46 rfl (lv_at hl 1 rfl) ?_
      refine lv_iload_n hx hb ddX5_assign_47 rfl (lv_at hl 2 rfl) ?_
      refine lv_iload_n hx hb ddX5_assign_48 rfl (lv_at hl 3 rfl) ?_
      refine lv_iconst (v := (3 : Int32)) hx hb ddX5_assign_49 (by decide) ?_
      refine k_VI (As := [.int x1, .int x2, .int x3, .int (3 : Int32)]) (rest := []) (c_X5_isRefused l X h) mf_X5_isRefused lk1261 hx hb hml hown ht hK hZ hS hA 25 5 rfl rfl rfl ⟨rfl, rfl⟩ ⟨Nat.le_of_ble_eq_true rfl, Nat.le_of_ble_eq_true rfl⟩ rfl hl.1 rfl (Nat.le_of_ble_eq_true rfl) ⟨Nat.le_of_ble_eq_true rfl, Nat.le_of_ble_eq_true rfl⟩ ddX5_assign_50 (fun r8 σ7 H locs hS h => ?_)
      refine lv_if_eq (tgt := 58) hx hb ddX5_assign_53 (by decide) (fun c9 => ?_) (fun c9 => ?_)
      · replace h := h.1 c9
        refine lv_aload_n hx hb ddX5_assign_58 rfl (lv_at hl 0 rfl) ?_
        refine lv_aload_n hx hb ddX5_assign_59 rfl (lv_at hl 0 rfl) ?_
        refine get_25_0 hx hb hown ht hK hS lk1124 ddX5_assign_60 ?_
        refine k_VV (As := [.ref (ga X 26)]) (rest := []) (c_X5_keeps_26 l X h) mf_X5_keeps lk1203 hx hb hml hown ht hK hZ hS hA 25 5 rfl rfl rfl ⟨rfl, rfl⟩ ⟨Nat.le_of_ble_eq_true rfl, Nat.le_of_ble_eq_true rfl⟩ rfl hl.1 rfl (Nat.le_of_ble_eq_true rfl) ⟨Nat.le_of_ble_eq_true rfl, Nat.le_of_ble_eq_true rfl⟩ ddX5_assign_63 (fun σ10 H locs hS h => ?_)
        refine lv_aload_n hx hb ddX5_assign_66 rfl (lv_at hl 0 rfl) ?_
        refine lv_iload_n hx hb ddX5_assign_67 rfl (lv_at hl 1 rfl) ?_
        refine lv_iload_n hx hb ddX5_assign_68 rfl (lv_at hl 2 rfl) ?_
        refine lv_iload_n hx hb ddX5_assign_69 rfl (lv_at hl 3 rfl) ?_
        refine k_VV (As := [.int x1, .int x2, .int x3]) (rest := []) (c_X5_puts l X h) mf_X5_puts lk1281 hx hb hml hown ht hK hZ hS hA 25 5 rfl rfl rfl ⟨rfl, rfl⟩ ⟨Nat.le_of_ble_eq_true rfl, Nat.le_of_ble_eq_true rfl⟩ rfl hl.1 rfl (Nat.le_of_ble_eq_true rfl) ⟨Nat.le_of_ble_eq_true rfl, Nat.le_of_ble_eq_true rfl⟩ ddX5_assign_70 (fun σ11 H locs hS h => ?_)
        refine lv_aload_n hx hb ddX5_assign_73 rfl (lv_at hl 0 rfl) ?_
        refine lv_iload_n hx hb ddX5_assign_74 rfl (lv_at hl 3 rfl) ?_
        refine k_VI (As := [.int x3]) (rest := []) (c_X5_duties l X h) mf_X5_duties lk1285 hx hb hml hown ht hK hZ hS hA 25 5 rfl rfl rfl ⟨rfl, rfl⟩ ⟨Nat.le_of_ble_eq_true rfl, Nat.le_of_ble_eq_true rfl⟩ rfl hl.1 rfl (Nat.le_of_ble_eq_true rfl) ⟨Nat.le_of_ble_eq_true rfl, Nat.le_of_ble_eq_true rfl⟩ ddX5_assign_75 (fun r13 σ12 H locs hS h => ?_)
        exact k_iret hx hb hr hlocks hK hS h ddX5_assign_78
      · replace h := h.2 c9
        refine lv_iconst (v := (0 : Int32)) hx hb ddX5_assign_56 (by decide) ?_
        exact k_iret hx hb hr hlocks hK hS h ddX5_assign_57
    · replace h := h.2 c6
      refine lv_iconst (v := (0 : Int32)) hx hb ddX5_assign_43 (by decide) ?_
      exact k_iret hx hb hr hlocks hK hS h ddX5_assign_44
  have hJ18 : ∀ (x1 x2 x3 : Int32) (σ : Mem) (H : Heap) (locs : List Loc) (ls : Array Slot), WS X A s.heap σ H locs → lv_has ls 4 [(0, .ref (ga X 25)), (1, .int x1), (2, .int x2), (3, .int x3)] → wpJ_X5_assign_18 K x1 x2 x3 σ → WI X K p l e ({ frames := 5, cells := 0, slots := 0, locals := 113 } : Room) s m args below meth c A H locs (F0 m 18 ls [.ref (ga X 25)]) := by
    intro x1 x2 x3 σ H locs ls hS hl h
    unfold wpJ_X5_assign_18 at h
    refine lv_iconst (v := (1 : Int32)) hx hb ddX5_assign_18 (by decide) ?_
    refine lv_goto (tgt := 37) hx hb ddX5_assign_19 (by decide) ?_
    exact hJ37 _ _ _ _ _ _ _ _ hS (lv_sub hl [0, 1, 2, 3] rfl) h
  unfold wp_X5_assign at h
  refine lv_aload_n hx hb ddX5_assign_0 rfl (lv_at hl 0 rfl) ?_
  refine lv_aload_n hx hb ddX5_assign_1 rfl (lv_at hl 0 rfl) ?_
  refine lv_iload_n hx hb ddX5_assign_2 rfl (lv_at hl 1 rfl) ?_
  refine lv_iload_n hx hb ddX5_assign_3 rfl (lv_at hl 2 rfl) ?_
  refine k_VI (As := [.int x1, .int x2]) (rest := [.ref (ga X 25)]) (c_X5_arePlace l X h) mf_X5_arePlace lk1254 hx hb hml hown ht hK hZ hS hA 25 5 rfl rfl rfl ⟨rfl, rfl⟩ ⟨Nat.le_of_ble_eq_true rfl, Nat.le_of_ble_eq_true rfl⟩ rfl hl.1 rfl (Nat.le_of_ble_eq_true rfl) ⟨Nat.le_of_ble_eq_true rfl, Nat.le_of_ble_eq_true rfl⟩ ddX5_assign_4 (fun r2 σ1 H locs hS h => ?_)
  refine lv_if_eq (tgt := 18) hx hb ddX5_assign_7 (by decide) (fun c3 => ?_) (fun c3 => ?_)
  · replace h := h.1 c3
    exact hJ18 _ _ _ _ _ _ _ hS (lv_sub hl [0, 1, 2, 3] rfl) h
  · replace h := h.2 c3
    refine lv_aload_n hx hb ddX5_assign_10 rfl (lv_at hl 0 rfl) ?_
    refine lv_iload_n hx hb ddX5_assign_11 rfl (lv_at hl 3 rfl) ?_
    refine k_VI (As := [.int x3]) (rest := [.ref (ga X 25)]) (c_X5_isGuard l X h) mf_X5_isGuard lk1238 hx hb hml hown ht hK hZ hS hA 25 5 rfl rfl rfl ⟨rfl, rfl⟩ ⟨Nat.le_of_ble_eq_true rfl, Nat.le_of_ble_eq_true rfl⟩ rfl hl.1 rfl (Nat.le_of_ble_eq_true rfl) ⟨Nat.le_of_ble_eq_true rfl, Nat.le_of_ble_eq_true rfl⟩ ddX5_assign_12 (fun r15 σ14 H locs hS h => ?_)
    refine lv_if_ne (tgt := 22) hx hb ddX5_assign_15 (by decide) (fun c16 => ?_) (fun c16 => ?_)
    · replace h := h.1 c16
      refine lv_iload_n hx hb ddX5_assign_22 rfl (lv_at hl 2 rfl) ?_
      refine lv_aload_n hx hb ddX5_assign_23 rfl (lv_at hl 0 rfl) ?_
      refine get_25_0 hx hb hown ht hK hS lk1124 ddX5_assign_24 ?_
      refine lv_iconst (v := (2 : Int32)) hx hb ddX5_assign_27 (by decide) ?_
      refine aldk_26 hx hb hK hS 2 (by unfold vp_in; decide) rfl ddX5_assign_28 ?_
      refine lv_icmp_ge (tgt := 36) hx hb ddX5_assign_29 (by decide) (fun c17 => ?_) (fun c17 => ?_)
      · replace h := h.1 c17
        refine lv_iconst (v := (0 : Int32)) hx hb ddX5_assign_36 (by decide) ?_
        exact hJ37 _ _ _ _ _ _ _ _ hS (lv_sub hl [0, 1, 2, 3] rfl) h
      · replace h := h.2 c17
        refine lv_iconst (v := (2 : Int32)) hx hb ddX5_assign_32 (by decide) ?_
        refine lv_goto (tgt := 37) hx hb ddX5_assign_33 (by decide) ?_
        exact hJ37 _ _ _ _ _ _ _ _ hS (lv_sub hl [0, 1, 2, 3] rfl) h
    · replace h := h.2 c16
      exact hJ18 _ _ _ _ _ _ _ hS (lv_sub hl [0, 1, 2, 3] rfl) h

set_option maxHeartbeats 4000000 in
set_option maxRecDepth 100000 in
theorem c_X5_canAssign (l : Launch) (X : GX) {x1 x2 x3 : Int32} {σ : Mem} {K : Int32 → Mem → Prop} (h : wp_X5_canAssign x1 x2 x3 σ K) : MI l X yX5_canAssign cX5_canAssign 4 ((Option.some Jvm.ClassFile.FieldType.boolean)) ({ frames := 4, cells := 0, slots := 0, locals := 88 } : Room) [.ref (ga X 25), .int x1, .int x2, .int x3] σ K := by
  refine ent_met (QQ := fun A => va_Qi K (BW X A) A) (by decide) (Nat.le_of_ble_eq_true rfl) ?_
  intro p e s m args below meth c A ls hx hb hr hlocks hml hown ht hK hZ hA hS hl
  have hown : s.vm.findClass "GuardRosterModel" = some m.cls := hown
  have hl : lv_has ls 4 [(0, .ref (ga X 25)), (1, .int x1), (2, .int x2), (3, .int x3)] := hl
  have hJ23 : ∀ (x1 x2 x3 y1 : Int32) (σ : Mem) (H : Heap) (locs : List Loc) (ls : Array Slot), WS X A s.heap σ H locs → lv_has ls 4 [(0, .ref (ga X 25)), (1, .int x1), (2, .int x2), (3, .int x3)] → wpJ_X5_canAssign_23 K x1 x2 x3 y1 σ → WI X K p l e ({ frames := 4, cells := 0, slots := 0, locals := 88 } : Room) s m args below meth c A H locs (F0 m 23 ls [.int y1, .ref (ga X 25)]) := by
    intro x1 x2 x3 y1 σ H locs ls hS hl h
    unfold wpJ_X5_canAssign_23 at h
    refine k_VI (As := [.int y1]) (rest := []) (c_X5_fails l X h) mf_X5_fails lk1199 hx hb hml hown ht hK hZ hS hA 25 5 rfl rfl rfl ⟨rfl, rfl⟩ ⟨Nat.le_of_ble_eq_true rfl, Nat.le_of_ble_eq_true rfl⟩ rfl hl.1 rfl (Nat.le_of_ble_eq_true rfl) ⟨Nat.le_of_ble_eq_true rfl, Nat.le_of_ble_eq_true rfl⟩ ddX5_canAssign_23 (fun r5 σ4 H locs hS h => ?_)
    refine lv_if_ne (tgt := 53) hx hb ddX5_canAssign_26 (by decide) (fun c6 => ?_) (fun c6 => ?_)
    · replace h := h.1 c6
      refine lv_iconst (v := (0 : Int32)) hx hb ddX5_canAssign_53 (by decide) ?_
      exact k_zret hx hb hr hlocks hK hS rfl h ddX5_canAssign_54
    · replace h := h.2 c6
      refine lv_iload_n hx hb ddX5_canAssign_29 rfl (lv_at hl 2 rfl) ?_
      refine lv_aload_n hx hb ddX5_canAssign_30 rfl (lv_at hl 0 rfl) ?_
      refine get_25_0 hx hb hown ht hK hS lk1124 ddX5_canAssign_31 ?_
      refine lv_iconst (v := (2 : Int32)) hx hb ddX5_canAssign_34 (by decide) ?_
      refine aldk_26 hx hb hK hS 2 (by unfold vp_in; decide) rfl ddX5_canAssign_35 ?_
      refine lv_icmp_lt (tgt := 53) hx hb ddX5_canAssign_36 (by decide) (fun c7 => ?_) (fun c7 => ?_)
      · replace h := h.1 c7
        refine lv_iconst (v := (0 : Int32)) hx hb ddX5_canAssign_53 (by decide) ?_
        exact k_zret hx hb hr hlocks hK hS rfl h ddX5_canAssign_54
      · replace h := h.2 c7
        refine lv_aload_n hx hb ddX5_canAssign_39 rfl (lv_at hl 0 rfl) ?_
        refine lv_iload_n hx hb ddX5_canAssign_40 rfl (lv_at hl 1 rfl) ?_
        refine lv_iload_n hx hb ddX5_canAssign_41 rfl (lv_at hl 2 rfl) ?_
        refine lv_iload_n hx hb ddX5_canAssign_42 rfl (lv_at hl 3 rfl) ?_
        refine k_VI (As := [.int x1, .int x2, .int x3]) (rest := []) (c_X5_refuses l X h) mf_X5_refuses lk1265 hx hb hml hown ht hK hZ hS hA 25 5 rfl rfl rfl ⟨rfl, rfl⟩ ⟨Nat.le_of_ble_eq_true rfl, Nat.le_of_ble_eq_true rfl⟩ rfl hl.1 rfl (Nat.le_of_ble_eq_true rfl) ⟨Nat.le_of_ble_eq_true rfl, Nat.le_of_ble_eq_true rfl⟩ ddX5_canAssign_43 (fun r9 σ8 H locs hS h => ?_)
        refine lv_if_ne (tgt := 53) hx hb ddX5_canAssign_46 (by decide) (fun c10 => ?_) (fun c10 => ?_)
        · replace h := h.1 c10
          refine lv_iconst (v := (0 : Int32)) hx hb ddX5_canAssign_53 (by decide) ?_
          exact k_zret hx hb hr hlocks hK hS rfl h ddX5_canAssign_54
        · replace h := h.2 c10
          refine lv_iconst (v := (1 : Int32)) hx hb ddX5_canAssign_49 (by decide) ?_
          refine lv_goto (tgt := 54) hx hb ddX5_canAssign_50 (by decide) ?_
          exact k_zret hx hb hr hlocks hK hS rfl h ddX5_canAssign_54
  have hJ22 : ∀ (x1 x2 x3 : Int32) (σ : Mem) (H : Heap) (locs : List Loc) (ls : Array Slot), WS X A s.heap σ H locs → lv_has ls 4 [(0, .ref (ga X 25)), (1, .int x1), (2, .int x2), (3, .int x3)] → wpJ_X5_canAssign_22 K x1 x2 x3 σ → WI X K p l e ({ frames := 4, cells := 0, slots := 0, locals := 88 } : Room) s m args below meth c A H locs (F0 m 22 ls [.ref (ga X 25)]) := by
    intro x1 x2 x3 σ H locs ls hS hl h
    unfold wpJ_X5_canAssign_22 at h
    refine lv_iconst (v := (1 : Int32)) hx hb ddX5_canAssign_22 (by decide) ?_
    exact hJ23 _ _ _ _ _ _ _ _ hS (lv_sub hl [0, 1, 2, 3] rfl) h
  unfold wp_X5_canAssign at h
  refine lv_aload_n hx hb ddX5_canAssign_0 rfl (lv_at hl 0 rfl) ?_
  refine lv_aload_n hx hb ddX5_canAssign_1 rfl (lv_at hl 0 rfl) ?_
  refine lv_iload_n hx hb ddX5_canAssign_2 rfl (lv_at hl 1 rfl) ?_
  refine lv_iload_n hx hb ddX5_canAssign_3 rfl (lv_at hl 2 rfl) ?_
  refine k_VI (As := [.int x1, .int x2]) (rest := [.ref (ga X 25)]) (c_X5_arePlace l X h) mf_X5_arePlace lk1254 hx hb hml hown ht hK hZ hS hA 25 5 rfl rfl rfl ⟨rfl, rfl⟩ ⟨Nat.le_of_ble_eq_true rfl, Nat.le_of_ble_eq_true rfl⟩ rfl hl.1 rfl (Nat.le_of_ble_eq_true rfl) ⟨Nat.le_of_ble_eq_true rfl, Nat.le_of_ble_eq_true rfl⟩ ddX5_canAssign_4 (fun r2 σ1 H locs hS h => ?_)
  refine lv_if_eq (tgt := 22) hx hb ddX5_canAssign_7 (by decide) (fun c3 => ?_) (fun c3 => ?_)
  · replace h := h.1 c3
    exact hJ22 _ _ _ _ _ _ _ hS (lv_sub hl [0, 1, 2, 3] rfl) h
  · replace h := h.2 c3
    refine lv_aload_n hx hb ddX5_canAssign_10 rfl (lv_at hl 0 rfl) ?_
    refine lv_iload_n hx hb ddX5_canAssign_11 rfl (lv_at hl 3 rfl) ?_
    refine k_VI (As := [.int x3]) (rest := [.ref (ga X 25)]) (c_X5_isGuard l X h) mf_X5_isGuard lk1238 hx hb hml hown ht hK hZ hS hA 25 5 rfl rfl rfl ⟨rfl, rfl⟩ ⟨Nat.le_of_ble_eq_true rfl, Nat.le_of_ble_eq_true rfl⟩ rfl hl.1 rfl (Nat.le_of_ble_eq_true rfl) ⟨Nat.le_of_ble_eq_true rfl, Nat.le_of_ble_eq_true rfl⟩ ddX5_canAssign_12 (fun r12 σ11 H locs hS h => ?_)
    refine lv_if_eq (tgt := 22) hx hb ddX5_canAssign_15 (by decide) (fun c13 => ?_) (fun c13 => ?_)
    · replace h := h.1 c13
      exact hJ22 _ _ _ _ _ _ _ hS (lv_sub hl [0, 1, 2, 3] rfl) h
    · replace h := h.2 c13
      refine lv_iconst (v := (0 : Int32)) hx hb ddX5_canAssign_18 (by decide) ?_
      refine lv_goto (tgt := 23) hx hb ddX5_canAssign_19 (by decide) ?_
      exact hJ23 _ _ _ _ _ _ _ _ hS (lv_sub hl [0, 1, 2, 3] rfl) h

set_option maxHeartbeats 4000000 in
set_option maxRecDepth 100000 in
theorem c_X5_remove (l : Launch) (X : GX) {x1 x2 : Int32} {σ : Mem} {K : Int32 → Mem → Prop} (h : wp_X5_remove x1 x2 σ K) : MI l X yX5_remove cX5_remove 4 ((Option.some Jvm.ClassFile.FieldType.int)) ({ frames := 3, cells := 0, slots := 0, locals := 65 } : Room) [.ref (ga X 25), .int x1, .int x2] σ K := by
  refine ent_met (QQ := fun A => va_Qi K (BW X A) A) (by decide) (Nat.le_of_ble_eq_true rfl) ?_
  intro p e s m args below meth c A ls hx hb hr hlocks hml hown ht hK hZ hA hS hl
  have hown : s.vm.findClass "GuardRosterModel" = some m.cls := hown
  have hl : lv_has ls 4 [(0, .ref (ga X 25)), (1, .int x1), (2, .int x2)] := hl
  have hJ42 : ∀ (x1 x2 y1 : Int32) (σ : Mem) (H : Heap) (locs : List Loc) (ls : Array Slot), WS X A s.heap σ H locs → lv_has ls 4 [(0, .ref (ga X 25)), (1, .int x1), (2, .int x2)] → wpJ_X5_remove_42 K x1 x2 y1 σ → WI X K p l e ({ frames := 3, cells := 0, slots := 0, locals := 65 } : Room) s m args below meth c A H locs (F0 m 42 ls [.int y1, .ref (ga X 25)]) := by
    intro x1 x2 y1 σ H locs ls hS hl h
    unfold wpJ_X5_remove_42 at h
    refine k_VI (As := [.int y1]) (rest := []) (c_X5_fails l X h) mf_X5_fails lk1199 hx hb hml hown ht hK hZ hS hA 25 5 rfl rfl rfl ⟨rfl, rfl⟩ ⟨Nat.le_of_ble_eq_true rfl, Nat.le_of_ble_eq_true rfl⟩ rfl hl.1 rfl (Nat.le_of_ble_eq_true rfl) ⟨Nat.le_of_ble_eq_true rfl, Nat.le_of_ble_eq_true rfl⟩ ddX5_remove_42 (fun r9 σ8 H locs hS h => ?_)
    refine lv_if_eq (tgt := 50) hx hb ddX5_remove_45 (by decide) (fun c10 => ?_) (fun c10 => ?_)
    · replace h := h.1 c10
      refine lv_aload_n hx hb ddX5_remove_50 rfl (lv_at hl 0 rfl) ?_
      refine lv_iload_n hx hb ddX5_remove_51 rfl (lv_at hl 1 rfl) ?_
      refine lv_iload_n hx hb ddX5_remove_52 rfl (lv_at hl 2 rfl) ?_
      refine k_VI (As := [.int x1, .int x2]) (rest := []) (c_X5_who l X h) mf_X5_who lk1269 hx hb hml hown ht hK hZ hS hA 25 5 rfl rfl rfl ⟨rfl, rfl⟩ ⟨Nat.le_of_ble_eq_true rfl, Nat.le_of_ble_eq_true rfl⟩ rfl hl.1 rfl (Nat.le_of_ble_eq_true rfl) ⟨Nat.le_of_ble_eq_true rfl, Nat.le_of_ble_eq_true rfl⟩ ddX5_remove_53 (fun r12 σ11 H locs hS h => ?_)
      refine lv_istore_n (lv' := [(3, .int r12), (0, .ref (ga X 25)), (1, .int x1), (2, .int x2)]) hx hb ddX5_remove_56 rfl hl (by decide) rfl (fun ls hl => ?_)
      refine lv_aload_n hx hb ddX5_remove_57 rfl (lv_at hl 1 rfl) ?_
      refine lv_aload_n hx hb ddX5_remove_58 rfl (lv_at hl 1 rfl) ?_
      refine get_25_0 hx hb hown ht hK hS lk1124 ddX5_remove_59 ?_
      refine k_VV (As := [.ref (ga X 26)]) (rest := []) (c_X5_keeps_26 l X h) mf_X5_keeps lk1203 hx hb hml hown ht hK hZ hS hA 25 5 rfl rfl rfl ⟨rfl, rfl⟩ ⟨Nat.le_of_ble_eq_true rfl, Nat.le_of_ble_eq_true rfl⟩ rfl hl.1 rfl (Nat.le_of_ble_eq_true rfl) ⟨Nat.le_of_ble_eq_true rfl, Nat.le_of_ble_eq_true rfl⟩ ddX5_remove_62 (fun σ13 H locs hS h => ?_)
      refine lv_aload_n hx hb ddX5_remove_65 rfl (lv_at hl 1 rfl) ?_
      refine lv_iload_n hx hb ddX5_remove_66 rfl (lv_at hl 2 rfl) ?_
      refine lv_iload_n hx hb ddX5_remove_67 rfl (lv_at hl 3 rfl) ?_
      refine lv_iconst (v := (-1 : Int32)) hx hb ddX5_remove_68 (by decide) ?_
      refine k_VV (As := [.int x1, .int x2, .int (-1 : Int32)]) (rest := []) (c_X5_puts l X h) mf_X5_puts lk1281 hx hb hml hown ht hK hZ hS hA 25 5 rfl rfl rfl ⟨rfl, rfl⟩ ⟨Nat.le_of_ble_eq_true rfl, Nat.le_of_ble_eq_true rfl⟩ rfl hl.1 rfl (Nat.le_of_ble_eq_true rfl) ⟨Nat.le_of_ble_eq_true rfl, Nat.le_of_ble_eq_true rfl⟩ ddX5_remove_69 (fun σ14 H locs hS h => ?_)
      refine lv_iload_n hx hb ddX5_remove_72 rfl (lv_at hl 0 rfl) ?_
      exact k_iret hx hb hr hlocks hK hS h ddX5_remove_73
    · replace h := h.2 c10
      refine lv_iconst (v := (0 : Int32)) hx hb ddX5_remove_48 (by decide) ?_
      exact k_iret hx hb hr hlocks hK hS h ddX5_remove_49
  unfold wp_X5_remove at h
  refine lv_aload_n hx hb ddX5_remove_0 rfl (lv_at hl 0 rfl) ?_
  refine lv_aload_n hx hb ddX5_remove_1 rfl (lv_at hl 0 rfl) ?_
  refine lv_iload_n hx hb ddX5_remove_2 rfl (lv_at hl 1 rfl) ?_
  refine lv_iload_n hx hb ddX5_remove_3 rfl (lv_at hl 2 rfl) ?_
  refine k_VI (As := [.int x1, .int x2]) (rest := [.ref (ga X 25)]) (c_X5_arePlace l X h) mf_X5_arePlace lk1254 hx hb hml hown ht hK hZ hS hA 25 5 rfl rfl rfl ⟨rfl, rfl⟩ ⟨Nat.le_of_ble_eq_true rfl, Nat.le_of_ble_eq_true rfl⟩ rfl hl.1 rfl (Nat.le_of_ble_eq_true rfl) ⟨Nat.le_of_ble_eq_true rfl, Nat.le_of_ble_eq_true rfl⟩ ddX5_remove_4 (fun r2 σ1 H locs hS h => ?_)
  refine lv_if_ne (tgt := 14) hx hb ddX5_remove_7 (by decide) (fun c3 => ?_) (fun c3 => ?_)
  · replace h := h.1 c3
    refine lv_iload_n hx hb ddX5_remove_14 rfl (lv_at hl 2 rfl) ?_
    refine lv_aload_n hx hb ddX5_remove_15 rfl (lv_at hl 0 rfl) ?_
    refine get_25_0 hx hb hown ht hK hS lk1124 ddX5_remove_16 ?_
    refine lv_iconst (v := (2 : Int32)) hx hb ddX5_remove_19 (by decide) ?_
    refine aldk_26 hx hb hK hS 2 (by unfold vp_in; decide) rfl ddX5_remove_20 ?_
    refine lv_icmp_ge (tgt := 28) hx hb ddX5_remove_21 (by decide) (fun c4 => ?_) (fun c4 => ?_)
    · replace h := h.1 c4
      refine lv_aload_n hx hb ddX5_remove_28 rfl (lv_at hl 0 rfl) ?_
      refine lv_iload_n hx hb ddX5_remove_29 rfl (lv_at hl 1 rfl) ?_
      refine lv_iload_n hx hb ddX5_remove_30 rfl (lv_at hl 2 rfl) ?_
      refine k_VI (As := [.int x1, .int x2]) (rest := [.ref (ga X 25)]) (c_X5_who l X h) mf_X5_who lk1269 hx hb hml hown ht hK hZ hS hA 25 5 rfl rfl rfl ⟨rfl, rfl⟩ ⟨Nat.le_of_ble_eq_true rfl, Nat.le_of_ble_eq_true rfl⟩ rfl hl.1 rfl (Nat.le_of_ble_eq_true rfl) ⟨Nat.le_of_ble_eq_true rfl, Nat.le_of_ble_eq_true rfl⟩ ddX5_remove_31 (fun r6 σ5 H locs hS h => ?_)
      refine lv_if_ge (tgt := 41) hx hb ddX5_remove_34 (by decide) (fun c7 => ?_) (fun c7 => ?_)
      · replace h := h.1 c7
        refine lv_iconst (v := (0 : Int32)) hx hb ddX5_remove_41 (by decide) ?_
        exact hJ42 _ _ _ _ _ _ _ hS (lv_sub hl [0, 1, 2] rfl) h
      · replace h := h.2 c7
        refine lv_iconst (v := (3 : Int32)) hx hb ddX5_remove_37 (by decide) ?_
        refine lv_goto (tgt := 42) hx hb ddX5_remove_38 (by decide) ?_
        exact hJ42 _ _ _ _ _ _ _ hS (lv_sub hl [0, 1, 2] rfl) h
    · replace h := h.2 c4
      refine lv_iconst (v := (2 : Int32)) hx hb ddX5_remove_24 (by decide) ?_
      refine lv_goto (tgt := 42) hx hb ddX5_remove_25 (by decide) ?_
      exact hJ42 _ _ _ _ _ _ _ hS (lv_sub hl [0, 1, 2] rfl) h
  · replace h := h.2 c3
    refine lv_iconst (v := (1 : Int32)) hx hb ddX5_remove_10 (by decide) ?_
    refine lv_goto (tgt := 42) hx hb ddX5_remove_11 (by decide) ?_
    exact hJ42 _ _ _ _ _ _ _ hS (lv_sub hl [0, 1, 2] rfl) h

set_option maxHeartbeats 4000000 in
set_option maxRecDepth 100000 in
theorem c_X5_exchange (l : Launch) (X : GX) {x1 x2 x3 x4 : Int32} {σ : Mem} {K : Int32 → Mem → Prop} (h : wp_X5_exchange x1 x2 x3 x4 σ K) : MI l X yX5_exchange cX5_exchange 8 ((Option.some Jvm.ClassFile.FieldType.int)) ({ frames := 5, cells := 0, slots := 0, locals := 113 } : Room) [.ref (ga X 25), .int x1, .int x2, .int x3, .int x4] σ K := by
  refine ent_met (QQ := fun A => va_Qi K (BW X A) A) (by decide) (Nat.le_of_ble_eq_true rfl) ?_
  intro p e s m args below meth c A ls hx hb hr hlocks hml hown ht hK hZ hA hS hl
  have hown : s.vm.findClass "GuardRosterModel" = some m.cls := hown
  have hl : lv_has ls 8 [(0, .ref (ga X 25)), (1, .int x1), (2, .int x2), (3, .int x3), (4, .int x4)] := hl
  have hJ165 : ∀ (x1 x2 x3 x4 x5 x6 x7 : Int32) (σ : Mem) (H : Heap) (locs : List Loc) (ls : Array Slot), WS X A s.heap σ H locs → lv_has ls 8 [(0, .ref (ga X 25)), (1, .int x1), (2, .int x2), (3, .int x3), (4, .int x4), (5, .int x5), (6, .int x6), (7, .int x7)] → wpJ_X5_exchange_165 K x1 x2 x3 x4 x5 x6 x7 σ → WI X K p l e ({ frames := 5, cells := 0, slots := 0, locals := 113 } : Room) s m args below meth c A H locs (F0 m 165 ls []) := by
    intro x1 x2 x3 x4 x5 x6 x7 σ H locs ls hS hl h
    unfold wpJ_X5_exchange_165 at h
    refine lv_aload_n hx hb ddX5_exchange_165 rfl (lv_at hl 0 rfl) ?_
    refine lv_iload_n hx hb ddX5_exchange_166 rfl (lv_at hl 1 rfl) ?_
    refine lv_iload_n hx hb ddX5_exchange_167 rfl (lv_at hl 2 rfl) ?_
    refine lv_iload hx hb ddX5_exchange_168 (lv_at hl 5 rfl) ?_
    refine k_VV (As := [.int x1, .int x2, .int x5]) (rest := []) (c_X5_puts l X h) mf_X5_puts lk1281 hx hb hml hown ht hK hZ hS hA 25 5 rfl rfl rfl ⟨rfl, rfl⟩ ⟨Nat.le_of_ble_eq_true rfl, Nat.le_of_ble_eq_true rfl⟩ rfl hl.1 rfl (Nat.le_of_ble_eq_true rfl) ⟨Nat.le_of_ble_eq_true rfl, Nat.le_of_ble_eq_true rfl⟩ ddX5_exchange_170 (fun σ20 H locs hS h => ?_)
    refine lv_aload_n hx hb ddX5_exchange_173 rfl (lv_at hl 0 rfl) ?_
    refine lv_iload_n hx hb ddX5_exchange_174 rfl (lv_at hl 3 rfl) ?_
    refine lv_iload hx hb ddX5_exchange_175 (lv_at hl 4 rfl) ?_
    refine lv_iload hx hb ddX5_exchange_177 (lv_at hl 6 rfl) ?_
    refine k_VV (As := [.int x3, .int x4, .int x6]) (rest := []) (c_X5_puts l X h) mf_X5_puts lk1281 hx hb hml hown ht hK hZ hS hA 25 5 rfl rfl rfl ⟨rfl, rfl⟩ ⟨Nat.le_of_ble_eq_true rfl, Nat.le_of_ble_eq_true rfl⟩ rfl hl.1 rfl (Nat.le_of_ble_eq_true rfl) ⟨Nat.le_of_ble_eq_true rfl, Nat.le_of_ble_eq_true rfl⟩ ddX5_exchange_179 (fun σ21 H locs hS h => ?_)
    refine lv_iload hx hb ddX5_exchange_182 (lv_at hl 7 rfl) ?_
    refine lv_if_eq (tgt := 189) hx hb ddX5_exchange_184 (by decide) (fun c22 => ?_) (fun c22 => ?_)
    · replace h := h.1 c22
      refine lv_aload_n hx hb ddX5_exchange_189 rfl (lv_at hl 0 rfl) ?_
      refine lv_aload_n hx hb ddX5_exchange_190 rfl (lv_at hl 0 rfl) ?_
      refine get_25_0 hx hb hown ht hK hS lk1124 ddX5_exchange_191 ?_
      refine k_VV (As := [.ref (ga X 26)]) (rest := []) (c_X5_keeps_26 l X h) mf_X5_keeps lk1203 hx hb hml hown ht hK hZ hS hA 25 5 rfl rfl rfl ⟨rfl, rfl⟩ ⟨Nat.le_of_ble_eq_true rfl, Nat.le_of_ble_eq_true rfl⟩ rfl hl.1 rfl (Nat.le_of_ble_eq_true rfl) ⟨Nat.le_of_ble_eq_true rfl, Nat.le_of_ble_eq_true rfl⟩ ddX5_exchange_194 (fun σ23 H locs hS h => ?_)
      refine lv_aload_n hx hb ddX5_exchange_197 rfl (lv_at hl 0 rfl) ?_
      refine lv_iload_n hx hb ddX5_exchange_198 rfl (lv_at hl 1 rfl) ?_
      refine lv_iload_n hx hb ddX5_exchange_199 rfl (lv_at hl 2 rfl) ?_
      refine lv_iload hx hb ddX5_exchange_200 (lv_at hl 6 rfl) ?_
      refine k_VV (As := [.int x1, .int x2, .int x6]) (rest := []) (c_X5_puts l X h) mf_X5_puts lk1281 hx hb hml hown ht hK hZ hS hA 25 5 rfl rfl rfl ⟨rfl, rfl⟩ ⟨Nat.le_of_ble_eq_true rfl, Nat.le_of_ble_eq_true rfl⟩ rfl hl.1 rfl (Nat.le_of_ble_eq_true rfl) ⟨Nat.le_of_ble_eq_true rfl, Nat.le_of_ble_eq_true rfl⟩ ddX5_exchange_202 (fun σ24 H locs hS h => ?_)
      refine lv_aload_n hx hb ddX5_exchange_205 rfl (lv_at hl 0 rfl) ?_
      refine lv_iload_n hx hb ddX5_exchange_206 rfl (lv_at hl 3 rfl) ?_
      refine lv_iload hx hb ddX5_exchange_207 (lv_at hl 4 rfl) ?_
      refine lv_iload hx hb ddX5_exchange_209 (lv_at hl 5 rfl) ?_
      refine k_VV (As := [.int x3, .int x4, .int x5]) (rest := []) (c_X5_puts l X h) mf_X5_puts lk1281 hx hb hml hown ht hK hZ hS hA 25 5 rfl rfl rfl ⟨rfl, rfl⟩ ⟨Nat.le_of_ble_eq_true rfl, Nat.le_of_ble_eq_true rfl⟩ rfl hl.1 rfl (Nat.le_of_ble_eq_true rfl) ⟨Nat.le_of_ble_eq_true rfl, Nat.le_of_ble_eq_true rfl⟩ ddX5_exchange_211 (fun σ25 H locs hS h => ?_)
      refine lv_iload hx hb ddX5_exchange_214 (lv_at hl 6 rfl) ?_
      exact k_iret hx hb hr hlocks hK hS h ddX5_exchange_216
    · replace h := h.2 c22
      refine lv_iconst (v := (0 : Int32)) hx hb ddX5_exchange_187 (by decide) ?_
      exact k_iret hx hb hr hlocks hK hS h ddX5_exchange_188
  have hJ106 : ∀ (x1 x2 x3 x4 x5 x6 y1 : Int32) (σ : Mem) (H : Heap) (locs : List Loc) (ls : Array Slot), WS X A s.heap σ H locs → lv_has ls 8 [(0, .ref (ga X 25)), (1, .int x1), (2, .int x2), (3, .int x3), (4, .int x4), (5, .int x5), (6, .int x6)] → wpJ_X5_exchange_106 K x1 x2 x3 x4 x5 x6 y1 σ → WI X K p l e ({ frames := 5, cells := 0, slots := 0, locals := 113 } : Room) s m args below meth c A H locs (F0 m 106 ls [.int y1, .ref (ga X 25)]) := by
    intro x1 x2 x3 x4 x5 x6 y1 σ H locs ls hS hl h
    unfold wpJ_X5_exchange_106 at h
    refine k_VI (As := [.int y1]) (rest := []) (c_X5_fails l X h) mf_X5_fails lk1199 hx hb hml hown ht hK hZ hS hA 25 5 rfl rfl rfl ⟨rfl, rfl⟩ ⟨Nat.le_of_ble_eq_true rfl, Nat.le_of_ble_eq_true rfl⟩ rfl hl.1 rfl (Nat.le_of_ble_eq_true rfl) ⟨Nat.le_of_ble_eq_true rfl, Nat.le_of_ble_eq_true rfl⟩ ddX5_exchange_106 (fun r13 σ12 H locs hS h => ?_)
    refine lv_if_eq (tgt := 114) hx hb ddX5_exchange_109 (by decide) (fun c14 => ?_) (fun c14 => ?_)
    · replace h := h.1 c14
      refine lv_aload_n hx hb ddX5_exchange_114 rfl (lv_at hl 0 rfl) ?_
      refine lv_iload_n hx hb ddX5_exchange_115 rfl (lv_at hl 1 rfl) ?_
      refine lv_iload_n hx hb ddX5_exchange_116 rfl (lv_at hl 2 rfl) ?_
      refine lv_iconst (v := (-1 : Int32)) hx hb ddX5_exchange_117 (by decide) ?_
      refine k_VV (As := [.int x1, .int x2, .int (-1 : Int32)]) (rest := []) (c_X5_puts l X h) mf_X5_puts lk1281 hx hb hml hown ht hK hZ hS hA 25 5 rfl rfl rfl ⟨rfl, rfl⟩ ⟨Nat.le_of_ble_eq_true rfl, Nat.le_of_ble_eq_true rfl⟩ rfl hl.1 rfl (Nat.le_of_ble_eq_true rfl) ⟨Nat.le_of_ble_eq_true rfl, Nat.le_of_ble_eq_true rfl⟩ ddX5_exchange_118 (fun σ15 H locs hS h => ?_)
      refine lv_aload_n hx hb ddX5_exchange_121 rfl (lv_at hl 0 rfl) ?_
      refine lv_iload_n hx hb ddX5_exchange_122 rfl (lv_at hl 3 rfl) ?_
      refine lv_iload hx hb ddX5_exchange_123 (lv_at hl 4 rfl) ?_
      refine lv_iconst (v := (-1 : Int32)) hx hb ddX5_exchange_125 (by decide) ?_
      refine k_VV (As := [.int x3, .int x4, .int (-1 : Int32)]) (rest := []) (c_X5_puts l X h) mf_X5_puts lk1281 hx hb hml hown ht hK hZ hS hA 25 5 rfl rfl rfl ⟨rfl, rfl⟩ ⟨Nat.le_of_ble_eq_true rfl, Nat.le_of_ble_eq_true rfl⟩ rfl hl.1 rfl (Nat.le_of_ble_eq_true rfl) ⟨Nat.le_of_ble_eq_true rfl, Nat.le_of_ble_eq_true rfl⟩ ddX5_exchange_126 (fun σ16 H locs hS h => ?_)
      refine lv_aload_n hx hb ddX5_exchange_129 rfl (lv_at hl 0 rfl) ?_
      refine lv_iload_n hx hb ddX5_exchange_130 rfl (lv_at hl 1 rfl) ?_
      refine lv_iload_n hx hb ddX5_exchange_131 rfl (lv_at hl 2 rfl) ?_
      refine lv_iload hx hb ddX5_exchange_132 (lv_at hl 6 rfl) ?_
      refine lv_iconst (v := (5 : Int32)) hx hb ddX5_exchange_134 (by decide) ?_
      refine k_VI (As := [.int x1, .int x2, .int x6, .int (5 : Int32)]) (rest := []) (c_X5_isRefused l X h) mf_X5_isRefused lk1261 hx hb hml hown ht hK hZ hS hA 25 5 rfl rfl rfl ⟨rfl, rfl⟩ ⟨Nat.le_of_ble_eq_true rfl, Nat.le_of_ble_eq_true rfl⟩ rfl hl.1 rfl (Nat.le_of_ble_eq_true rfl) ⟨Nat.le_of_ble_eq_true rfl, Nat.le_of_ble_eq_true rfl⟩ ddX5_exchange_135 (fun r18 σ17 H locs hS h => ?_)
      refine lv_istore (lv' := [(7, .int r18), (0, .ref (ga X 25)), (1, .int x1), (2, .int x2), (3, .int x3), (4, .int x4), (5, .int x5), (6, .int x6)]) hx hb ddX5_exchange_138 hl (by decide) rfl (fun ls hl => ?_)
      refine lv_iload hx hb ddX5_exchange_140 (lv_at hl 0 rfl) ?_
      refine lv_if_ne (tgt := 165) hx hb ddX5_exchange_142 (by decide) (fun c19 => ?_) (fun c19 => ?_)
      · replace h := h.1 c19
        exact hJ165 _ _ _ _ _ _ _ _ _ _ _ hS (lv_sub hl [1, 2, 3, 4, 5, 6, 7, 0] rfl) h
      · replace h := h.2 c19
        refine lv_aload_n hx hb ddX5_exchange_145 rfl (lv_at hl 1 rfl) ?_
        refine lv_iload_n hx hb ddX5_exchange_146 rfl (lv_at hl 2 rfl) ?_
        refine lv_iload_n hx hb ddX5_exchange_147 rfl (lv_at hl 3 rfl) ?_
        refine lv_iload hx hb ddX5_exchange_148 (lv_at hl 7 rfl) ?_
        refine k_VV (As := [.int x1, .int x2, .int x6]) (rest := []) (c_X5_puts l X h) mf_X5_puts lk1281 hx hb hml hown ht hK hZ hS hA 25 5 rfl rfl rfl ⟨rfl, rfl⟩ ⟨Nat.le_of_ble_eq_true rfl, Nat.le_of_ble_eq_true rfl⟩ rfl hl.1 rfl (Nat.le_of_ble_eq_true rfl) ⟨Nat.le_of_ble_eq_true rfl, Nat.le_of_ble_eq_true rfl⟩ ddX5_exchange_150 (fun σ26 H locs hS h => ?_)
        refine lv_aload_n hx hb ddX5_exchange_153 rfl (lv_at hl 1 rfl) ?_
        refine lv_iload_n hx hb ddX5_exchange_154 rfl (lv_at hl 4 rfl) ?_
        refine lv_iload hx hb ddX5_exchange_155 (lv_at hl 5 rfl) ?_
        refine lv_iload hx hb ddX5_exchange_157 (lv_at hl 6 rfl) ?_
        refine lv_iconst (v := (5 : Int32)) hx hb ddX5_exchange_159 (by decide) ?_
        refine k_VI (As := [.int x3, .int x4, .int x5, .int (5 : Int32)]) (rest := []) (c_X5_isRefused l X h) mf_X5_isRefused lk1261 hx hb hml hown ht hK hZ hS hA 25 5 rfl rfl rfl ⟨rfl, rfl⟩ ⟨Nat.le_of_ble_eq_true rfl, Nat.le_of_ble_eq_true rfl⟩ rfl hl.1 rfl (Nat.le_of_ble_eq_true rfl) ⟨Nat.le_of_ble_eq_true rfl, Nat.le_of_ble_eq_true rfl⟩ ddX5_exchange_160 (fun r28 σ27 H locs hS h => ?_)
        refine lv_istore (lv' := [(7, .int r28), (0, .ref (ga X 25)), (1, .int x1), (2, .int x2), (3, .int x3), (4, .int x4), (5, .int x5), (6, .int x6)]) hx hb ddX5_exchange_163 hl (by decide) rfl (fun ls hl => ?_)
        exact hJ165 _ _ _ _ _ _ _ _ _ _ _ hS (lv_sub hl [1, 2, 3, 4, 5, 6, 7, 0] rfl) h
    · replace h := h.2 c14
      refine lv_iconst (v := (0 : Int32)) hx hb ddX5_exchange_112 (by decide) ?_
      exact k_iret hx hb hr hlocks hK hS h ddX5_exchange_113
  have hJ101 : ∀ (x1 x2 x3 x4 x5 x6 : Int32) (σ : Mem) (H : Heap) (locs : List Loc) (ls : Array Slot), WS X A s.heap σ H locs → lv_has ls 8 [(0, .ref (ga X 25)), (1, .int x1), (2, .int x2), (3, .int x3), (4, .int x4), (5, .int x5), (6, .int x6)] → wpJ_X5_exchange_101 K x1 x2 x3 x4 x5 x6 σ → WI X K p l e ({ frames := 5, cells := 0, slots := 0, locals := 113 } : Room) s m args below meth c A H locs (F0 m 101 ls [.ref (ga X 25)]) := by
    intro x1 x2 x3 x4 x5 x6 σ H locs ls hS hl h
    unfold wpJ_X5_exchange_101 at h
    refine lv_iconst (v := (4 : Int32)) hx hb ddX5_exchange_101 (by decide) ?_
    refine lv_goto (tgt := 106) hx hb ddX5_exchange_102 (by decide) ?_
    exact hJ106 _ _ _ _ _ _ _ _ _ _ _ hS (lv_sub hl [0, 1, 2, 3, 4, 5, 6] rfl) h
  have hJ65 : ∀ (x1 x2 x3 x4 y1 : Int32) (σ : Mem) (H : Heap) (locs : List Loc) (ls : Array Slot), WS X A s.heap σ H locs → lv_has ls 8 [(0, .ref (ga X 25)), (1, .int x1), (2, .int x2), (3, .int x3), (4, .int x4)] → wpJ_X5_exchange_65 K x1 x2 x3 x4 y1 σ → WI X K p l e ({ frames := 5, cells := 0, slots := 0, locals := 113 } : Room) s m args below meth c A H locs (F0 m 65 ls [.int y1, .ref (ga X 25)]) := by
    intro x1 x2 x3 x4 y1 σ H locs ls hS hl h
    unfold wpJ_X5_exchange_65 at h
    refine k_VI (As := [.int y1]) (rest := []) (c_X5_fails l X h) mf_X5_fails lk1199 hx hb hml hown ht hK hZ hS hA 25 5 rfl rfl rfl ⟨rfl, rfl⟩ ⟨Nat.le_of_ble_eq_true rfl, Nat.le_of_ble_eq_true rfl⟩ rfl hl.1 rfl (Nat.le_of_ble_eq_true rfl) ⟨Nat.le_of_ble_eq_true rfl, Nat.le_of_ble_eq_true rfl⟩ ddX5_exchange_65 (fun r5 σ4 H locs hS h => ?_)
    refine lv_if_eq (tgt := 73) hx hb ddX5_exchange_68 (by decide) (fun c6 => ?_) (fun c6 => ?_)
    · replace h := h.1 c6
      refine lv_aload_n hx hb ddX5_exchange_73 rfl (lv_at hl 0 rfl) ?_
      refine lv_iload_n hx hb ddX5_exchange_74 rfl (lv_at hl 1 rfl) ?_
      refine lv_iload_n hx hb ddX5_exchange_75 rfl (lv_at hl 2 rfl) ?_
      refine k_VI (As := [.int x1, .int x2]) (rest := []) (c_X5_who l X h) mf_X5_who lk1269 hx hb hml hown ht hK hZ hS hA 25 5 rfl rfl rfl ⟨rfl, rfl⟩ ⟨Nat.le_of_ble_eq_true rfl, Nat.le_of_ble_eq_true rfl⟩ rfl hl.1 rfl (Nat.le_of_ble_eq_true rfl) ⟨Nat.le_of_ble_eq_true rfl, Nat.le_of_ble_eq_true rfl⟩ ddX5_exchange_76 (fun r8 σ7 H locs hS h => ?_)
      refine lv_istore (lv' := [(5, .int r8), (0, .ref (ga X 25)), (1, .int x1), (2, .int x2), (3, .int x3), (4, .int x4)]) hx hb ddX5_exchange_79 hl (by decide) rfl (fun ls hl => ?_)
      refine lv_aload_n hx hb ddX5_exchange_81 rfl (lv_at hl 1 rfl) ?_
      refine lv_iload_n hx hb ddX5_exchange_82 rfl (lv_at hl 4 rfl) ?_
      refine lv_iload hx hb ddX5_exchange_83 (lv_at hl 5 rfl) ?_
      refine k_VI (As := [.int x3, .int x4]) (rest := []) (c_X5_who l X h) mf_X5_who lk1269 hx hb hml hown ht hK hZ hS hA 25 5 rfl rfl rfl ⟨rfl, rfl⟩ ⟨Nat.le_of_ble_eq_true rfl, Nat.le_of_ble_eq_true rfl⟩ rfl hl.1 rfl (Nat.le_of_ble_eq_true rfl) ⟨Nat.le_of_ble_eq_true rfl, Nat.le_of_ble_eq_true rfl⟩ ddX5_exchange_85 (fun r10 σ9 H locs hS h => ?_)
      refine lv_istore (lv' := [(6, .int r10), (5, .int r8), (0, .ref (ga X 25)), (1, .int x1), (2, .int x2), (3, .int x3), (4, .int x4)]) hx hb ddX5_exchange_88 hl (by decide) rfl (fun ls hl => ?_)
      refine lv_aload_n hx hb ddX5_exchange_90 rfl (lv_at hl 2 rfl) ?_
      refine lv_iload hx hb ddX5_exchange_91 (lv_at hl 1 rfl) ?_
      refine lv_if_lt (tgt := 101) hx hb ddX5_exchange_93 (by decide) (fun c11 => ?_) (fun c11 => ?_)
      · replace h := h.1 c11
        exact hJ101 _ _ _ _ _ _ _ _ _ _ hS (lv_sub hl [2, 3, 4, 5, 6, 1, 0] rfl) h
      · replace h := h.2 c11
        refine lv_iload hx hb ddX5_exchange_96 (lv_at hl 0 rfl) ?_
        refine lv_if_ge (tgt := 105) hx hb ddX5_exchange_98 (by decide) (fun c29 => ?_) (fun c29 => ?_)
        · replace h := h.1 c29
          refine lv_iconst (v := (0 : Int32)) hx hb ddX5_exchange_105 (by decide) ?_
          exact hJ106 _ _ _ _ _ _ _ _ _ _ _ hS (lv_sub hl [2, 3, 4, 5, 6, 1, 0] rfl) h
        · replace h := h.2 c29
          exact hJ101 _ _ _ _ _ _ _ _ _ _ hS (lv_sub hl [2, 3, 4, 5, 6, 1, 0] rfl) h
    · replace h := h.2 c6
      refine lv_iconst (v := (0 : Int32)) hx hb ddX5_exchange_71 (by decide) ?_
      exact k_iret hx hb hr hlocks hK hS h ddX5_exchange_72
  have hJ60 : ∀ (x1 x2 x3 x4 : Int32) (σ : Mem) (H : Heap) (locs : List Loc) (ls : Array Slot), WS X A s.heap σ H locs → lv_has ls 8 [(0, .ref (ga X 25)), (1, .int x1), (2, .int x2), (3, .int x3), (4, .int x4)] → wpJ_X5_exchange_60 K x1 x2 x3 x4 σ → WI X K p l e ({ frames := 5, cells := 0, slots := 0, locals := 113 } : Room) s m args below meth c A H locs (F0 m 60 ls [.ref (ga X 25)]) := by
    intro x1 x2 x3 x4 σ H locs ls hS hl h
    unfold wpJ_X5_exchange_60 at h
    refine lv_iconst (v := (3 : Int32)) hx hb ddX5_exchange_60 (by decide) ?_
    refine lv_goto (tgt := 65) hx hb ddX5_exchange_61 (by decide) ?_
    exact hJ65 _ _ _ _ _ _ _ _ _ hS (lv_sub hl [0, 1, 2, 3, 4] rfl) h
  have hJ39 : ∀ (x1 x2 x3 x4 : Int32) (σ : Mem) (H : Heap) (locs : List Loc) (ls : Array Slot), WS X A s.heap σ H locs → lv_has ls 8 [(0, .ref (ga X 25)), (1, .int x1), (2, .int x2), (3, .int x3), (4, .int x4)] → wpJ_X5_exchange_39 K x1 x2 x3 x4 σ → WI X K p l e ({ frames := 5, cells := 0, slots := 0, locals := 113 } : Room) s m args below meth c A H locs (F0 m 39 ls [.ref (ga X 25)]) := by
    intro x1 x2 x3 x4 σ H locs ls hS hl h
    unfold wpJ_X5_exchange_39 at h
    refine lv_iload_n hx hb ddX5_exchange_39 rfl (lv_at hl 2 rfl) ?_
    refine lv_aload_n hx hb ddX5_exchange_40 rfl (lv_at hl 0 rfl) ?_
    refine get_25_0 hx hb hown ht hK hS lk1124 ddX5_exchange_41 ?_
    refine lv_iconst (v := (2 : Int32)) hx hb ddX5_exchange_44 (by decide) ?_
    refine aldk_26 hx hb hK hS 2 (by unfold vp_in; decide) rfl ddX5_exchange_45 ?_
    refine lv_icmp_lt (tgt := 60) hx hb ddX5_exchange_46 (by decide) (fun c34 => ?_) (fun c34 => ?_)
    · replace h := h.1 c34
      exact hJ60 _ _ _ _ _ _ _ _ hS (lv_sub hl [0, 1, 2, 3, 4] rfl) h
    · replace h := h.2 c34
      refine lv_iload hx hb ddX5_exchange_49 (lv_at hl 4 rfl) ?_
      refine lv_aload_n hx hb ddX5_exchange_51 rfl (lv_at hl 0 rfl) ?_
      refine get_25_0 hx hb hown ht hK hS lk1124 ddX5_exchange_52 ?_
      refine lv_iconst (v := (2 : Int32)) hx hb ddX5_exchange_55 (by decide) ?_
      refine aldk_26 hx hb hK hS 2 (by unfold vp_in; decide) rfl ddX5_exchange_56 ?_
      refine lv_icmp_ge (tgt := 64) hx hb ddX5_exchange_57 (by decide) (fun c35 => ?_) (fun c35 => ?_)
      · replace h := h.1 c35
        refine lv_iconst (v := (0 : Int32)) hx hb ddX5_exchange_64 (by decide) ?_
        exact hJ65 _ _ _ _ _ _ _ _ _ hS (lv_sub hl [0, 1, 2, 3, 4] rfl) h
      · replace h := h.2 c35
        exact hJ60 _ _ _ _ _ _ _ _ hS (lv_sub hl [0, 1, 2, 3, 4] rfl) h
  have hJ20 : ∀ (x1 x2 x3 x4 : Int32) (σ : Mem) (H : Heap) (locs : List Loc) (ls : Array Slot), WS X A s.heap σ H locs → lv_has ls 8 [(0, .ref (ga X 25)), (1, .int x1), (2, .int x2), (3, .int x3), (4, .int x4)] → wpJ_X5_exchange_20 K x1 x2 x3 x4 σ → WI X K p l e ({ frames := 5, cells := 0, slots := 0, locals := 113 } : Room) s m args below meth c A H locs (F0 m 20 ls [.ref (ga X 25)]) := by
    intro x1 x2 x3 x4 σ H locs ls hS hl h
    unfold wpJ_X5_exchange_20 at h
    refine lv_iconst (v := (1 : Int32)) hx hb ddX5_exchange_20 (by decide) ?_
    refine lv_goto (tgt := 65) hx hb ddX5_exchange_21 (by decide) ?_
    exact hJ65 _ _ _ _ _ _ _ _ _ hS (lv_sub hl [0, 1, 2, 3, 4] rfl) h
  unfold wp_X5_exchange at h
  refine lv_aload_n hx hb ddX5_exchange_0 rfl (lv_at hl 0 rfl) ?_
  refine lv_aload_n hx hb ddX5_exchange_1 rfl (lv_at hl 0 rfl) ?_
  refine lv_iload_n hx hb ddX5_exchange_2 rfl (lv_at hl 1 rfl) ?_
  refine lv_iload_n hx hb ddX5_exchange_3 rfl (lv_at hl 2 rfl) ?_
  refine k_VI (As := [.int x1, .int x2]) (rest := [.ref (ga X 25)]) (c_X5_arePlace l X h) mf_X5_arePlace lk1254 hx hb hml hown ht hK hZ hS hA 25 5 rfl rfl rfl ⟨rfl, rfl⟩ ⟨Nat.le_of_ble_eq_true rfl, Nat.le_of_ble_eq_true rfl⟩ rfl hl.1 rfl (Nat.le_of_ble_eq_true rfl) ⟨Nat.le_of_ble_eq_true rfl, Nat.le_of_ble_eq_true rfl⟩ ddX5_exchange_4 (fun r2 σ1 H locs hS h => ?_)
  refine lv_if_eq (tgt := 20) hx hb ddX5_exchange_7 (by decide) (fun c3 => ?_) (fun c3 => ?_)
  · replace h := h.1 c3
    exact hJ20 _ _ _ _ _ _ _ _ hS (lv_sub hl [0, 1, 2, 3, 4] rfl) h
  · replace h := h.2 c3
    refine lv_aload_n hx hb ddX5_exchange_10 rfl (lv_at hl 0 rfl) ?_
    refine lv_iload_n hx hb ddX5_exchange_11 rfl (lv_at hl 3 rfl) ?_
    refine lv_iload hx hb ddX5_exchange_12 (lv_at hl 4 rfl) ?_
    refine k_VI (As := [.int x3, .int x4]) (rest := [.ref (ga X 25)]) (c_X5_arePlace l X h) mf_X5_arePlace lk1254 hx hb hml hown ht hK hZ hS hA 25 5 rfl rfl rfl ⟨rfl, rfl⟩ ⟨Nat.le_of_ble_eq_true rfl, Nat.le_of_ble_eq_true rfl⟩ rfl hl.1 rfl (Nat.le_of_ble_eq_true rfl) ⟨Nat.le_of_ble_eq_true rfl, Nat.le_of_ble_eq_true rfl⟩ ddX5_exchange_14 (fun r31 σ30 H locs hS h => ?_)
    refine lv_if_ne (tgt := 24) hx hb ddX5_exchange_17 (by decide) (fun c32 => ?_) (fun c32 => ?_)
    · replace h := h.1 c32
      refine lv_iload_n hx hb ddX5_exchange_24 rfl (lv_at hl 1 rfl) ?_
      refine lv_iload_n hx hb ddX5_exchange_25 rfl (lv_at hl 3 rfl) ?_
      refine lv_icmp_ne (tgt := 39) hx hb ddX5_exchange_26 (by decide) (fun c33 => ?_) (fun c33 => ?_)
      · replace h := h.1 c33
        exact hJ39 _ _ _ _ _ _ _ _ hS (lv_sub hl [0, 1, 2, 3, 4] rfl) h
      · replace h := h.2 c33
        refine lv_iload_n hx hb ddX5_exchange_29 rfl (lv_at hl 2 rfl) ?_
        refine lv_iload hx hb ddX5_exchange_30 (lv_at hl 4 rfl) ?_
        refine lv_icmp_ne (tgt := 39) hx hb ddX5_exchange_32 (by decide) (fun c36 => ?_) (fun c36 => ?_)
        · replace h := h.1 c36
          exact hJ39 _ _ _ _ _ _ _ _ hS (lv_sub hl [0, 1, 2, 3, 4] rfl) h
        · replace h := h.2 c36
          refine lv_iconst (v := (2 : Int32)) hx hb ddX5_exchange_35 (by decide) ?_
          refine lv_goto (tgt := 65) hx hb ddX5_exchange_36 (by decide) ?_
          exact hJ65 _ _ _ _ _ _ _ _ _ hS (lv_sub hl [0, 1, 2, 3, 4] rfl) h
    · replace h := h.2 c32
      exact hJ20 _ _ _ _ _ _ _ _ hS (lv_sub hl [0, 1, 2, 3, 4] rfl) h

set_option maxHeartbeats 4000000 in
set_option maxRecDepth 100000 in
theorem c_X5_nextGate (l : Launch) (X : GX) {x1 x2 : Int32} {σ : Mem} {K : Int32 → Mem → Prop} (h : wp_X5_nextGate x1 x2 σ K) : MI l X yX5_nextGate cX5_nextGate 5 ((Option.some Jvm.ClassFile.FieldType.int)) ({ frames := 1, cells := 0, slots := 0, locals := 22 } : Room) [.ref (ga X 25), .int x1, .int x2] σ K := by
  refine ent_met (QQ := fun A => va_Qi K (BW X A) A) (by decide) (Nat.le_of_ble_eq_true rfl) ?_
  intro p e s m args below meth c A ls hx hb hr hlocks hml hown ht hK hZ hA hS hl
  have hown : s.vm.findClass "GuardRosterModel" = some m.cls := hown
  have hl : lv_has ls 5 [(0, .ref (ga X 25)), (1, .int x1), (2, .int x2)] := hl
  have hL5 : ∀ (n : Nat) (x1 x2 x3 x4 : Int32) (σ : Mem) (H : Heap) (locs : List Loc) (ls : Array Slot), WS X A s.heap σ H locs → lv_has ls 5 [(0, .ref (ga X 25)), (1, .int x1), (2, .int x2), (3, .int x3), (4, .int x4)] → wlp (wpF_X5_nextGate_5 K) n (x1, x2, x3, x4, σ) → WI X K p l e ({ frames := 1, cells := 0, slots := 0, locals := 22 } : Room) s m args below meth c A H locs (F0 m 5 ls []) := by
    intro n5
    induction n5 with
    | zero => intro x1 x2 x3 x4 σ H locs ls hS hl h; exact h.elim
    | succ n5 ih5 =>
      have hJ62 : ∀ (x1 x2 x3 x4 : Int32) (σ : Mem) (H : Heap) (locs : List Loc) (ls : Array Slot), WS X A s.heap σ H locs → lv_has ls 5 [(0, .ref (ga X 25)), (1, .int x1), (2, .int x2), (3, .int x3), (4, .int x4)] → wpJ_X5_nextGate_62 K (wlp (wpF_X5_nextGate_5 K) n5) x1 x2 x3 x4 σ → WI X K p l e ({ frames := 1, cells := 0, slots := 0, locals := 22 } : Room) s m args below meth c A H locs (F0 m 62 ls []) := by
        intro x1 x2 x3 x4 σ H locs ls hS hl h
        unfold wpJ_X5_nextGate_62 at h
        obtain ⟨v5, ev5⟩ : ∃ y : Int32, y = x4 + (1 : Int32) := ⟨_, rfl⟩
        replace h := h v5 ev5
        refine lv_iinc (v := v5) (lv' := [(4, .int v5), (0, .ref (ga X 25)), (1, .int x1), (2, .int x2), (3, .int x3)]) hx hb ddX5_nextGate_62 hl (k := 4) rfl (by rw [ev5]; rfl) (by decide) rfl (fun ls hl => ?_)
        refine lv_goto (tgt := 5) hx hb ddX5_nextGate_65 (by decide) ?_
        exact ih5 _ _ _ _ _ _ _ _ hS (lv_sub hl [1, 2, 3, 4, 0] rfl) h
      have hJ59 : ∀ (x1 x2 x4 : Int32) (σ : Mem) (H : Heap) (locs : List Loc) (ls : Array Slot), WS X A s.heap σ H locs → lv_has ls 5 [(0, .ref (ga X 25)), (1, .int x1), (2, .int x2), (4, .int x4)] → wpJ_X5_nextGate_59 K (wlp (wpF_X5_nextGate_5 K) n5) x1 x2 x4 σ → WI X K p l e ({ frames := 1, cells := 0, slots := 0, locals := 22 } : Room) s m args below meth c A H locs (F0 m 59 ls []) := by
        intro x1 x2 x4 σ H locs ls hS hl h
        unfold wpJ_X5_nextGate_59 at h
        refine lv_iload hx hb ddX5_nextGate_59 (lv_at hl 3 rfl) ?_
        refine lv_istore_n (lv' := [(3, .int x4), (0, .ref (ga X 25)), (1, .int x1), (2, .int x2), (4, .int x4)]) hx hb ddX5_nextGate_61 rfl hl (by decide) rfl (fun ls hl => ?_)
        exact hJ62 _ _ _ _ _ _ _ _ hS (lv_sub hl [1, 2, 3, 0, 4] rfl) h
      intro x1 x2 x3 x4 σ H locs ls hS hl h
      replace h : wpS_X5_nextGate_5 K (wlp (wpF_X5_nextGate_5 K) n5) x1 x2 x3 x4 σ := h
      unfold wpS_X5_nextGate_5 at h
      refine lv_iload hx hb ddX5_nextGate_5 (lv_at hl 4 rfl) ?_
      refine lv_aload_n hx hb ddX5_nextGate_7 rfl (lv_at hl 0 rfl) ?_
      refine get_25_0 hx hb hown ht hK hS lk1124 ddX5_nextGate_8 ?_
      refine lv_iconst (v := (0 : Int32)) hx hb ddX5_nextGate_11 (by decide) ?_
      refine aldk_26 hx hb hK hS 0 (by unfold vp_in; decide) rfl ddX5_nextGate_12 ?_
      refine lv_icmp_ge (tgt := 68) hx hb ddX5_nextGate_13 (by decide) (fun c1 => ?_) (fun c1 => ?_)
      · replace h := h.1 c1
        refine lv_iload_n hx hb ddX5_nextGate_68 rfl (lv_at hl 3 rfl) ?_
        exact k_iret hx hb hr hlocks hK hS h ddX5_nextGate_69
      · replace h := h.2 c1
        refine lv_aload_n hx hb ddX5_nextGate_16 rfl (lv_at hl 0 rfl) ?_
        refine lv_iload hx hb ddX5_nextGate_17 (lv_at hl 4 rfl) ?_
        refine lv_iload_n hx hb ddX5_nextGate_19 rfl (lv_at hl 1 rfl) ?_
        refine k_VI (As := [.int x4, .int x1]) (rest := []) (c_X5_who l X h) mf_X5_who lk1269 hx hb hml hown ht hK hZ hS hA 25 5 rfl rfl rfl ⟨rfl, rfl⟩ ⟨Nat.le_of_ble_eq_true rfl, Nat.le_of_ble_eq_true rfl⟩ rfl hl.1 rfl (Nat.le_of_ble_eq_true rfl) ⟨Nat.le_of_ble_eq_true rfl, Nat.le_of_ble_eq_true rfl⟩ ddX5_nextGate_20 (fun r3 σ2 H locs hS h => ?_)
        refine lv_if_ge (tgt := 62) hx hb ddX5_nextGate_23 (by decide) (fun c4 => ?_) (fun c4 => ?_)
        · replace h := h.1 c4
          exact hJ62 _ _ _ _ _ _ _ _ hS (lv_sub hl [0, 1, 2, 3, 4] rfl) h
        · replace h := h.2 c4
          refine lv_iload_n hx hb ddX5_nextGate_26 rfl (lv_at hl 2 rfl) ?_
          refine lv_iload hx hb ddX5_nextGate_27 (lv_at hl 4 rfl) ?_
          refine lv_ishr hx hb ddX5_nextGate_29 ?_
          refine lv_iconst (v := (1 : Int32)) hx hb ddX5_nextGate_30 (by decide) ?_
          refine lv_iand hx hb ddX5_nextGate_31 ?_
          refine lv_if_ne (tgt := 62) hx hb ddX5_nextGate_32 (by decide) (fun c6 => ?_) (fun c6 => ?_)
          · replace h := h.1 c6
            exact hJ62 _ _ _ _ _ _ _ _ hS (lv_sub hl [0, 1, 2, 3, 4] rfl) h
          · replace h := h.2 c6
            refine lv_iload_n hx hb ddX5_nextGate_35 rfl (lv_at hl 3 rfl) ?_
            refine lv_if_lt (tgt := 59) hx hb ddX5_nextGate_36 (by decide) (fun c7 => ?_) (fun c7 => ?_)
            · replace h := h.1 c7
              exact hJ59 _ _ _ _ _ _ _ hS (lv_sub hl [0, 1, 2, 4] rfl) h
            · replace h := h.2 c7
              refine lv_aload_n hx hb ddX5_nextGate_39 rfl (lv_at hl 0 rfl) ?_
              refine get_25_0 hx hb hown ht hK hS lk1124 ddX5_nextGate_40 ?_
              refine lv_iconst (v := (4 : Int32)) hx hb ddX5_nextGate_43 (by decide) ?_
              refine lv_iload hx hb ddX5_nextGate_44 (lv_at hl 4 rfl) ?_
              refine lv_iadd hx hb ddX5_nextGate_46 ?_
              refine ald_26 hx hb hK hS h.1 ddX5_nextGate_47 ?_
              replace h := h.2
              refine lv_aload_n hx hb ddX5_nextGate_48 rfl (lv_at hl 0 rfl) ?_
              refine get_25_0 hx hb hown ht hK hS lk1124 ddX5_nextGate_49 ?_
              refine lv_iconst (v := (4 : Int32)) hx hb ddX5_nextGate_52 (by decide) ?_
              refine lv_iload_n hx hb ddX5_nextGate_53 rfl (lv_at hl 3 rfl) ?_
              refine lv_iadd hx hb ddX5_nextGate_54 ?_
              refine ald_26 hx hb hK hS h.1 ddX5_nextGate_55 ?_
              replace h := h.2
              refine lv_icmp_le (tgt := 62) hx hb ddX5_nextGate_56 (by decide) (fun c8 => ?_) (fun c8 => ?_)
              · replace h := h.1 c8
                exact hJ62 _ _ _ _ _ _ _ _ hS (lv_sub hl [0, 1, 2, 3, 4] rfl) h
              · replace h := h.2 c8
                exact hJ59 _ _ _ _ _ _ _ hS (lv_sub hl [0, 1, 2, 4] rfl) h
  unfold wp_X5_nextGate at h
  refine lv_iconst (v := (-1 : Int32)) hx hb ddX5_nextGate_0 (by decide) ?_
  refine lv_istore_n (lv' := [(3, .int (-1 : Int32)), (0, .ref (ga X 25)), (1, .int x1), (2, .int x2)]) hx hb ddX5_nextGate_1 rfl hl (by decide) rfl (fun ls hl => ?_)
  refine lv_iconst (v := (0 : Int32)) hx hb ddX5_nextGate_2 (by decide) ?_
  refine lv_istore (lv' := [(4, .int (0 : Int32)), (3, .int (-1 : Int32)), (0, .ref (ga X 25)), (1, .int x1), (2, .int x2)]) hx hb ddX5_nextGate_3 hl (by decide) rfl (fun ls hl => ?_)
  obtain ⟨n, h⟩ := h
  exact hL5 n _ _ _ _ _ _ _ _ hS (lv_sub hl [2, 3, 4, 1, 0] rfl) h

set_option maxHeartbeats 4000000 in
set_option maxRecDepth 100000 in
theorem c_X5_isAhead (l : Launch) (X : GX) {x1 x2 : Int32} {σ : Mem} {K : Int32 → Mem → Prop} (h : wp_X5_isAhead x1 x2 σ K) : MI l X yX5_isAhead cX5_isAhead 4 ((Option.some Jvm.ClassFile.FieldType.boolean)) ({ frames := 1, cells := 0, slots := 0, locals := 23 } : Room) [.ref (ga X 25), .int x1, .int x2] σ K := by
  refine ent_met (QQ := fun A => va_Qi K (BW X A) A) (by decide) (Nat.le_of_ble_eq_true rfl) ?_
  intro p e s m args below meth c A ls hx hb hr hlocks hml hown ht hK hZ hA hS hl
  have hown : s.vm.findClass "GuardRosterModel" = some m.cls := hown
  have hl : lv_has ls 4 [(0, .ref (ga X 25)), (1, .int x1), (2, .int x2)] := hl
  unfold wp_X5_isAhead at h
  refine lv_aload_n hx hb ddX5_isAhead_0 rfl (lv_at hl 0 rfl) ?_
  refine lv_iload_n hx hb ddX5_isAhead_1 rfl (lv_at hl 1 rfl) ?_
  refine k_VI (As := [.int x1]) (rest := []) (c_X5_duties l X h) mf_X5_duties lk1285 hx hb hml hown ht hK hZ hS hA 25 5 rfl rfl rfl ⟨rfl, rfl⟩ ⟨Nat.le_of_ble_eq_true rfl, Nat.le_of_ble_eq_true rfl⟩ rfl hl.1 rfl (Nat.le_of_ble_eq_true rfl) ⟨Nat.le_of_ble_eq_true rfl, Nat.le_of_ble_eq_true rfl⟩ ddX5_isAhead_2 (fun r2 σ1 H locs hS h => ?_)
  refine lv_aload_n hx hb ddX5_isAhead_5 rfl (lv_at hl 0 rfl) ?_
  refine lv_iload_n hx hb ddX5_isAhead_6 rfl (lv_at hl 2 rfl) ?_
  refine k_VI (As := [.int x2]) (rest := [.int r2]) (c_X5_duties l X h) mf_X5_duties lk1285 hx hb hml hown ht hK hZ hS hA 25 5 rfl rfl rfl ⟨rfl, rfl⟩ ⟨Nat.le_of_ble_eq_true rfl, Nat.le_of_ble_eq_true rfl⟩ rfl hl.1 rfl (Nat.le_of_ble_eq_true rfl) ⟨Nat.le_of_ble_eq_true rfl, Nat.le_of_ble_eq_true rfl⟩ ddX5_isAhead_7 (fun r4 σ3 H locs hS h => ?_)
  refine lv_isub hx hb ddX5_isAhead_10 ?_
  refine lv_topi (fun v5 ev5 => ?_)
  replace h := h v5 ev5
  refine lv_istore_n (lv' := [(3, .int v5), (0, .ref (ga X 25)), (1, .int x1), (2, .int x2)]) hx hb ddX5_isAhead_11 rfl hl (by decide) rfl (fun ls hl => ?_)
  refine lv_iload_n hx hb ddX5_isAhead_12 rfl (lv_at hl 0 rfl) ?_
  refine lv_if_eq (tgt := 26) hx hb ddX5_isAhead_13 (by decide) (fun c6 => ?_) (fun c6 => ?_)
  · replace h := h.1 c6
    refine lv_aload_n hx hb ddX5_isAhead_26 rfl (lv_at hl 1 rfl) ?_
    refine lv_iload_n hx hb ddX5_isAhead_27 rfl (lv_at hl 2 rfl) ?_
    refine k_VI (As := [.int x1]) (rest := []) (c_X5_ranked l X h) mf_X5_ranked lk1242 hx hb hml hown ht hK hZ hS hA 25 5 rfl rfl rfl ⟨rfl, rfl⟩ ⟨Nat.le_of_ble_eq_true rfl, Nat.le_of_ble_eq_true rfl⟩ rfl hl.1 rfl (Nat.le_of_ble_eq_true rfl) ⟨Nat.le_of_ble_eq_true rfl, Nat.le_of_ble_eq_true rfl⟩ ddX5_isAhead_28 (fun r8 σ7 H locs hS h => ?_)
    refine lv_aload_n hx hb ddX5_isAhead_31 rfl (lv_at hl 1 rfl) ?_
    refine lv_iload_n hx hb ddX5_isAhead_32 rfl (lv_at hl 3 rfl) ?_
    refine k_VI (As := [.int x2]) (rest := [.int r8]) (c_X5_ranked l X h) mf_X5_ranked lk1242 hx hb hml hown ht hK hZ hS hA 25 5 rfl rfl rfl ⟨rfl, rfl⟩ ⟨Nat.le_of_ble_eq_true rfl, Nat.le_of_ble_eq_true rfl⟩ rfl hl.1 rfl (Nat.le_of_ble_eq_true rfl) ⟨Nat.le_of_ble_eq_true rfl, Nat.le_of_ble_eq_true rfl⟩ ddX5_isAhead_33 (fun r10 σ9 H locs hS h => ?_)
    refine lv_icmp_lt (tgt := 57) hx hb ddX5_isAhead_36 (by decide) (fun c11 => ?_) (fun c11 => ?_)
    · replace h := h.1 c11
      refine lv_iconst (v := (1 : Int32)) hx hb ddX5_isAhead_57 (by decide) ?_
      refine lv_goto (tgt := 62) hx hb ddX5_isAhead_58 (by decide) ?_
      exact k_zret hx hb hr hlocks hK hS rfl h ddX5_isAhead_62
    · replace h := h.2 c11
      refine lv_aload_n hx hb ddX5_isAhead_39 rfl (lv_at hl 1 rfl) ?_
      refine lv_iload_n hx hb ddX5_isAhead_40 rfl (lv_at hl 2 rfl) ?_
      refine k_VI (As := [.int x1]) (rest := []) (c_X5_ranked l X h) mf_X5_ranked lk1242 hx hb hml hown ht hK hZ hS hA 25 5 rfl rfl rfl ⟨rfl, rfl⟩ ⟨Nat.le_of_ble_eq_true rfl, Nat.le_of_ble_eq_true rfl⟩ rfl hl.1 rfl (Nat.le_of_ble_eq_true rfl) ⟨Nat.le_of_ble_eq_true rfl, Nat.le_of_ble_eq_true rfl⟩ ddX5_isAhead_41 (fun r13 σ12 H locs hS h => ?_)
      refine lv_aload_n hx hb ddX5_isAhead_44 rfl (lv_at hl 1 rfl) ?_
      refine lv_iload_n hx hb ddX5_isAhead_45 rfl (lv_at hl 3 rfl) ?_
      refine k_VI (As := [.int x2]) (rest := [.int r13]) (c_X5_ranked l X h) mf_X5_ranked lk1242 hx hb hml hown ht hK hZ hS hA 25 5 rfl rfl rfl ⟨rfl, rfl⟩ ⟨Nat.le_of_ble_eq_true rfl, Nat.le_of_ble_eq_true rfl⟩ rfl hl.1 rfl (Nat.le_of_ble_eq_true rfl) ⟨Nat.le_of_ble_eq_true rfl, Nat.le_of_ble_eq_true rfl⟩ ddX5_isAhead_46 (fun r15 σ14 H locs hS h => ?_)
      refine lv_icmp_ne (tgt := 61) hx hb ddX5_isAhead_49 (by decide) (fun c16 => ?_) (fun c16 => ?_)
      · replace h := h.1 c16
        refine lv_iconst (v := (0 : Int32)) hx hb ddX5_isAhead_61 (by decide) ?_
        exact k_zret hx hb hr hlocks hK hS rfl h ddX5_isAhead_62
      · replace h := h.2 c16
        refine lv_iload_n hx hb ddX5_isAhead_52 rfl (lv_at hl 2 rfl) ?_
        refine lv_iload_n hx hb ddX5_isAhead_53 rfl (lv_at hl 3 rfl) ?_
        refine lv_icmp_ge (tgt := 61) hx hb ddX5_isAhead_54 (by decide) (fun c17 => ?_) (fun c17 => ?_)
        · replace h := h.1 c17
          refine lv_iconst (v := (0 : Int32)) hx hb ddX5_isAhead_61 (by decide) ?_
          exact k_zret hx hb hr hlocks hK hS rfl h ddX5_isAhead_62
        · replace h := h.2 c17
          refine lv_iconst (v := (1 : Int32)) hx hb ddX5_isAhead_57 (by decide) ?_
          refine lv_goto (tgt := 62) hx hb ddX5_isAhead_58 (by decide) ?_
          exact k_zret hx hb hr hlocks hK hS rfl h ddX5_isAhead_62
  · replace h := h.2 c6
    refine lv_iload_n hx hb ddX5_isAhead_16 rfl (lv_at hl 0 rfl) ?_
    refine lv_if_ge (tgt := 24) hx hb ddX5_isAhead_17 (by decide) (fun c18 => ?_) (fun c18 => ?_)
    · replace h := h.1 c18
      refine lv_iconst (v := (0 : Int32)) hx hb ddX5_isAhead_24 (by decide) ?_
      exact k_zret hx hb hr hlocks hK hS rfl h ddX5_isAhead_25
    · replace h := h.2 c18
      refine lv_iconst (v := (1 : Int32)) hx hb ddX5_isAhead_20 (by decide) ?_
      refine lv_goto (tgt := 25) hx hb ddX5_isAhead_21 (by decide) ?_
      exact k_zret hx hb hr hlocks hK hS rfl h ddX5_isAhead_25

set_option maxHeartbeats 4000000 in
set_option maxRecDepth 100000 in
theorem c_X5_chosen (l : Launch) (X : GX) {x1 x2 : Int32} {σ : Mem} {K : Int32 → Mem → Prop} (h : wp_X5_chosen x1 x2 σ K) : MI l X yX5_chosen cX5_chosen 5 ((Option.some Jvm.ClassFile.FieldType.int)) ({ frames := 4, cells := 0, slots := 0, locals := 88 } : Room) [.ref (ga X 25), .int x1, .int x2] σ K := by
  refine ent_met (QQ := fun A => va_Qi K (BW X A) A) (by decide) (Nat.le_of_ble_eq_true rfl) ?_
  intro p e s m args below meth c A ls hx hb hr hlocks hml hown ht hK hZ hA hS hl
  have hown : s.vm.findClass "GuardRosterModel" = some m.cls := hown
  have hl : lv_has ls 5 [(0, .ref (ga X 25)), (1, .int x1), (2, .int x2)] := hl
  have hL5 : ∀ (n : Nat) (x1 x2 x3 x4 : Int32) (σ : Mem) (H : Heap) (locs : List Loc) (ls : Array Slot), WS X A s.heap σ H locs → lv_has ls 5 [(0, .ref (ga X 25)), (1, .int x1), (2, .int x2), (3, .int x3), (4, .int x4)] → wlp (wpF_X5_chosen_5 K) n (x1, x2, x3, x4, σ) → WI X K p l e ({ frames := 4, cells := 0, slots := 0, locals := 88 } : Room) s m args below meth c A H locs (F0 m 5 ls []) := by
    intro n5
    induction n5 with
    | zero => intro x1 x2 x3 x4 σ H locs ls hS hl h; exact h.elim
    | succ n5 ih5 =>
      have hJ44 : ∀ (x1 x2 x3 x4 : Int32) (σ : Mem) (H : Heap) (locs : List Loc) (ls : Array Slot), WS X A s.heap σ H locs → lv_has ls 5 [(0, .ref (ga X 25)), (1, .int x1), (2, .int x2), (3, .int x3), (4, .int x4)] → wpJ_X5_chosen_44 K (wlp (wpF_X5_chosen_5 K) n5) x1 x2 x3 x4 σ → WI X K p l e ({ frames := 4, cells := 0, slots := 0, locals := 88 } : Room) s m args below meth c A H locs (F0 m 44 ls []) := by
        intro x1 x2 x3 x4 σ H locs ls hS hl h
        unfold wpJ_X5_chosen_44 at h
        obtain ⟨v5, ev5⟩ : ∃ y : Int32, y = x4 + (1 : Int32) := ⟨_, rfl⟩
        replace h := h v5 ev5
        refine lv_iinc (v := v5) (lv' := [(4, .int v5), (0, .ref (ga X 25)), (1, .int x1), (2, .int x2), (3, .int x3)]) hx hb ddX5_chosen_44 hl (k := 4) rfl (by rw [ev5]; rfl) (by decide) rfl (fun ls hl => ?_)
        refine lv_goto (tgt := 5) hx hb ddX5_chosen_47 (by decide) ?_
        exact ih5 _ _ _ _ _ _ _ _ hS (lv_sub hl [1, 2, 3, 4, 0] rfl) h
      have hJ41 : ∀ (x1 x2 x4 : Int32) (σ : Mem) (H : Heap) (locs : List Loc) (ls : Array Slot), WS X A s.heap σ H locs → lv_has ls 5 [(0, .ref (ga X 25)), (1, .int x1), (2, .int x2), (4, .int x4)] → wpJ_X5_chosen_41 K (wlp (wpF_X5_chosen_5 K) n5) x1 x2 x4 σ → WI X K p l e ({ frames := 4, cells := 0, slots := 0, locals := 88 } : Room) s m args below meth c A H locs (F0 m 41 ls []) := by
        intro x1 x2 x4 σ H locs ls hS hl h
        unfold wpJ_X5_chosen_41 at h
        refine lv_iload hx hb ddX5_chosen_41 (lv_at hl 3 rfl) ?_
        refine lv_istore_n (lv' := [(3, .int x4), (0, .ref (ga X 25)), (1, .int x1), (2, .int x2), (4, .int x4)]) hx hb ddX5_chosen_43 rfl hl (by decide) rfl (fun ls hl => ?_)
        exact hJ44 _ _ _ _ _ _ _ _ hS (lv_sub hl [1, 2, 3, 0, 4] rfl) h
      intro x1 x2 x3 x4 σ H locs ls hS hl h
      replace h : wpS_X5_chosen_5 K (wlp (wpF_X5_chosen_5 K) n5) x1 x2 x3 x4 σ := h
      unfold wpS_X5_chosen_5 at h
      refine lv_iload hx hb ddX5_chosen_5 (lv_at hl 4 rfl) ?_
      refine lv_aload_n hx hb ddX5_chosen_7 rfl (lv_at hl 0 rfl) ?_
      refine get_25_0 hx hb hown ht hK hS lk1124 ddX5_chosen_8 ?_
      refine lv_iconst (v := (1 : Int32)) hx hb ddX5_chosen_11 (by decide) ?_
      refine aldk_26 hx hb hK hS 1 (by unfold vp_in; decide) rfl ddX5_chosen_12 ?_
      refine lv_icmp_ge (tgt := 50) hx hb ddX5_chosen_13 (by decide) (fun c1 => ?_) (fun c1 => ?_)
      · replace h := h.1 c1
        refine lv_iload_n hx hb ddX5_chosen_50 rfl (lv_at hl 3 rfl) ?_
        exact k_iret hx hb hr hlocks hK hS h ddX5_chosen_51
      · replace h := h.2 c1
        refine lv_aload_n hx hb ddX5_chosen_16 rfl (lv_at hl 0 rfl) ?_
        refine lv_iload_n hx hb ddX5_chosen_17 rfl (lv_at hl 1 rfl) ?_
        refine lv_iload_n hx hb ddX5_chosen_18 rfl (lv_at hl 2 rfl) ?_
        refine lv_iload hx hb ddX5_chosen_19 (lv_at hl 4 rfl) ?_
        refine k_VI (As := [.int x1, .int x2, .int x4]) (rest := []) (c_X5_refuses l X h) mf_X5_refuses lk1265 hx hb hml hown ht hK hZ hS hA 25 5 rfl rfl rfl ⟨rfl, rfl⟩ ⟨Nat.le_of_ble_eq_true rfl, Nat.le_of_ble_eq_true rfl⟩ rfl hl.1 rfl (Nat.le_of_ble_eq_true rfl) ⟨Nat.le_of_ble_eq_true rfl, Nat.le_of_ble_eq_true rfl⟩ ddX5_chosen_21 (fun r3 σ2 H locs hS h => ?_)
        refine lv_if_ne (tgt := 44) hx hb ddX5_chosen_24 (by decide) (fun c4 => ?_) (fun c4 => ?_)
        · replace h := h.1 c4
          exact hJ44 _ _ _ _ _ _ _ _ hS (lv_sub hl [0, 1, 2, 3, 4] rfl) h
        · replace h := h.2 c4
          refine lv_iload_n hx hb ddX5_chosen_27 rfl (lv_at hl 3 rfl) ?_
          refine lv_if_lt (tgt := 41) hx hb ddX5_chosen_28 (by decide) (fun c6 => ?_) (fun c6 => ?_)
          · replace h := h.1 c6
            exact hJ41 _ _ _ _ _ _ _ hS (lv_sub hl [0, 1, 2, 4] rfl) h
          · replace h := h.2 c6
            refine lv_aload_n hx hb ddX5_chosen_31 rfl (lv_at hl 0 rfl) ?_
            refine lv_iload hx hb ddX5_chosen_32 (lv_at hl 4 rfl) ?_
            refine lv_iload_n hx hb ddX5_chosen_34 rfl (lv_at hl 3 rfl) ?_
            refine k_VI (As := [.int x4, .int x3]) (rest := []) (c_X5_isAhead l X h) mf_X5_isAhead lk1313 hx hb hml hown ht hK hZ hS hA 25 5 rfl rfl rfl ⟨rfl, rfl⟩ ⟨Nat.le_of_ble_eq_true rfl, Nat.le_of_ble_eq_true rfl⟩ rfl hl.1 rfl (Nat.le_of_ble_eq_true rfl) ⟨Nat.le_of_ble_eq_true rfl, Nat.le_of_ble_eq_true rfl⟩ ddX5_chosen_35 (fun r8 σ7 H locs hS h => ?_)
            refine lv_if_eq (tgt := 44) hx hb ddX5_chosen_38 (by decide) (fun c9 => ?_) (fun c9 => ?_)
            · replace h := h.1 c9
              exact hJ44 _ _ _ _ _ _ _ _ hS (lv_sub hl [0, 1, 2, 3, 4] rfl) h
            · replace h := h.2 c9
              exact hJ41 _ _ _ _ _ _ _ hS (lv_sub hl [0, 1, 2, 4] rfl) h
  unfold wp_X5_chosen at h
  refine lv_iconst (v := (-1 : Int32)) hx hb ddX5_chosen_0 (by decide) ?_
  refine lv_istore_n (lv' := [(3, .int (-1 : Int32)), (0, .ref (ga X 25)), (1, .int x1), (2, .int x2)]) hx hb ddX5_chosen_1 rfl hl (by decide) rfl (fun ls hl => ?_)
  refine lv_iconst (v := (0 : Int32)) hx hb ddX5_chosen_2 (by decide) ?_
  refine lv_istore (lv' := [(4, .int (0 : Int32)), (3, .int (-1 : Int32)), (0, .ref (ga X 25)), (1, .int x1), (2, .int x2)]) hx hb ddX5_chosen_3 hl (by decide) rfl (fun ls hl => ?_)
  obtain ⟨n, h⟩ := h
  exact hL5 n _ _ _ _ _ _ _ _ hS (lv_sub hl [2, 3, 4, 1, 0] rfl) h

set_option maxHeartbeats 4000000 in
set_option maxRecDepth 100000 in
theorem c_X5_fillSlot (l : Launch) (X : GX) {x1 : Int32} {σ : Mem} {K : Int32 → Mem → Prop} (h : wp_X5_fillSlot x1 σ K) : MI l X yX5_fillSlot cX5_fillSlot 6 ((Option.some Jvm.ClassFile.FieldType.int)) ({ frames := 5, cells := 0, slots := 0, locals := 112 } : Room) [.ref (ga X 25), .int x1] σ K := by
  refine ent_met (QQ := fun A => va_Qi K (BW X A) A) (by decide) (Nat.le_of_ble_eq_true rfl) ?_
  intro p e s m args below meth c A ls hx hb hr hlocks hml hown ht hK hZ hA hS hl
  have hown : s.vm.findClass "GuardRosterModel" = some m.cls := hown
  have hl : lv_has ls 6 [(0, .ref (ga X 25)), (1, .int x1)] := hl
  have hL55 : ∀ (n : Nat) (x1 x2 x3 x4 : Int32) (σ : Mem) (H : Heap) (locs : List Loc) (ls : Array Slot), WS X A s.heap σ H locs → lv_has ls 6 [(0, .ref (ga X 25)), (1, .int x1), (2, .int x2), (3, .int x3), (4, .int x4)] → wlp (wpF_X5_fillSlot_55 K) n (x1, x2, x3, x4, σ) → WI X K p l e ({ frames := 5, cells := 0, slots := 0, locals := 112 } : Room) s m args below meth c A H locs (F0 m 55 ls []) := by
    intro n55
    induction n55 with
    | zero => intro x1 x2 x3 x4 σ H locs ls hS hl h; exact h.elim
    | succ n55 ih55 =>
      have hJ86 : ∀ (x1 x2 x3 x4 : Int32) (σ : Mem) (H : Heap) (locs : List Loc) (ls : Array Slot), WS X A s.heap σ H locs → lv_has ls 6 [(0, .ref (ga X 25)), (1, .int x1), (2, .int x2), (3, .int x3), (4, .int x4)] → wpJ_X5_fillSlot_86 K (wlp (wpF_X5_fillSlot_55 K) n55) x1 x2 x3 x4 σ → WI X K p l e ({ frames := 5, cells := 0, slots := 0, locals := 112 } : Room) s m args below meth c A H locs (F0 m 86 ls []) := by
        intro x1 x2 x3 x4 σ H locs ls hS hl h
        unfold wpJ_X5_fillSlot_86 at h
        refine lv_iload_n hx hb ddX5_fillSlot_86 rfl (lv_at hl 2 rfl) ?_
        refine lv_iconst (v := (1 : Int32)) hx hb ddX5_fillSlot_87 (by decide) ?_
        refine lv_iload hx hb ddX5_fillSlot_88 (lv_at hl 4 rfl) ?_
        refine lv_ishl hx hb ddX5_fillSlot_90 ?_
        refine lv_ior hx hb ddX5_fillSlot_91 ?_
        refine lv_topi (fun v15 ev15 => ?_)
        replace h := h v15 ev15
        refine lv_istore_n (lv' := [(2, .int v15), (0, .ref (ga X 25)), (1, .int x1), (3, .int x3), (4, .int x4)]) hx hb ddX5_fillSlot_92 rfl hl (by decide) rfl (fun ls hl => ?_)
        refine lv_aload_n hx hb ddX5_fillSlot_93 rfl (lv_at hl 1 rfl) ?_
        refine lv_iload_n hx hb ddX5_fillSlot_94 rfl (lv_at hl 2 rfl) ?_
        refine lv_iload_n hx hb ddX5_fillSlot_95 rfl (lv_at hl 0 rfl) ?_
        refine k_VI (As := [.int x1, .int v15]) (rest := []) (c_X5_nextGate l X h) mf_X5_nextGate lk1305 hx hb hml hown ht hK hZ hS hA 25 5 rfl rfl rfl ⟨rfl, rfl⟩ ⟨Nat.le_of_ble_eq_true rfl, Nat.le_of_ble_eq_true rfl⟩ rfl hl.1 rfl (Nat.le_of_ble_eq_true rfl) ⟨Nat.le_of_ble_eq_true rfl, Nat.le_of_ble_eq_true rfl⟩ ddX5_fillSlot_96 (fun r17 σ16 H locs hS h => ?_)
        refine lv_istore (lv' := [(4, .int r17), (2, .int v15), (0, .ref (ga X 25)), (1, .int x1), (3, .int x3)]) hx hb ddX5_fillSlot_99 hl (by decide) rfl (fun ls hl => ?_)
        refine lv_goto (tgt := 55) hx hb ddX5_fillSlot_101 (by decide) ?_
        exact ih55 _ _ _ _ _ _ _ _ hS (lv_sub hl [2, 3, 1, 4, 0] rfl) h
      intro x1 x2 x3 x4 σ H locs ls hS hl h
      replace h : wpS_X5_fillSlot_55 K (wlp (wpF_X5_fillSlot_55 K) n55) x1 x2 x3 x4 σ := h
      unfold wpS_X5_fillSlot_55 at h
      refine lv_iload hx hb ddX5_fillSlot_55 (lv_at hl 4 rfl) ?_
      refine lv_if_lt (tgt := 104) hx hb ddX5_fillSlot_57 (by decide) (fun c11 => ?_) (fun c11 => ?_)
      · replace h := h.1 c11
        refine lv_iload_n hx hb ddX5_fillSlot_104 rfl (lv_at hl 3 rfl) ?_
        exact k_iret hx hb hr hlocks hK hS h ddX5_fillSlot_105
      · replace h := h.2 c11
        refine lv_aload_n hx hb ddX5_fillSlot_60 rfl (lv_at hl 0 rfl) ?_
        refine lv_iload hx hb ddX5_fillSlot_61 (lv_at hl 4 rfl) ?_
        refine lv_iload_n hx hb ddX5_fillSlot_63 rfl (lv_at hl 1 rfl) ?_
        refine k_VI (As := [.int x4, .int x1]) (rest := []) (c_X5_chosen l X h) mf_X5_chosen lk1309 hx hb hml hown ht hK hZ hS hA 25 5 rfl rfl rfl ⟨rfl, rfl⟩ ⟨Nat.le_of_ble_eq_true rfl, Nat.le_of_ble_eq_true rfl⟩ rfl hl.1 rfl (Nat.le_of_ble_eq_true rfl) ⟨Nat.le_of_ble_eq_true rfl, Nat.le_of_ble_eq_true rfl⟩ ddX5_fillSlot_64 (fun r13 σ12 H locs hS h => ?_)
        refine lv_istore (lv' := [(5, .int r13), (0, .ref (ga X 25)), (1, .int x1), (2, .int x2), (3, .int x3), (4, .int x4)]) hx hb ddX5_fillSlot_67 hl (by decide) rfl (fun ls hl => ?_)
        refine lv_iload hx hb ddX5_fillSlot_69 (lv_at hl 0 rfl) ?_
        refine lv_if_lt (tgt := 86) hx hb ddX5_fillSlot_71 (by decide) (fun c14 => ?_) (fun c14 => ?_)
        · replace h := h.1 c14
          exact hJ86 _ _ _ _ _ _ _ _ hS (lv_sub hl [1, 2, 3, 4, 5] rfl) h
        · replace h := h.2 c14
          refine lv_aload_n hx hb ddX5_fillSlot_74 rfl (lv_at hl 1 rfl) ?_
          refine lv_iload hx hb ddX5_fillSlot_75 (lv_at hl 5 rfl) ?_
          refine lv_iload_n hx hb ddX5_fillSlot_77 rfl (lv_at hl 2 rfl) ?_
          refine lv_iload hx hb ddX5_fillSlot_78 (lv_at hl 0 rfl) ?_
          refine k_VV (As := [.int x4, .int x1, .int r13]) (rest := []) (c_X5_puts l X h) mf_X5_puts lk1281 hx hb hml hown ht hK hZ hS hA 25 5 rfl rfl rfl ⟨rfl, rfl⟩ ⟨Nat.le_of_ble_eq_true rfl, Nat.le_of_ble_eq_true rfl⟩ rfl hl.1 rfl (Nat.le_of_ble_eq_true rfl) ⟨Nat.le_of_ble_eq_true rfl, Nat.le_of_ble_eq_true rfl⟩ ddX5_fillSlot_80 (fun σ18 H locs hS h => ?_)
          obtain ⟨v19, ev19⟩ : ∃ y : Int32, y = x3 + (1 : Int32) := ⟨_, rfl⟩
          replace h := h v19 ev19
          refine lv_iinc (v := v19) (lv' := [(3, .int v19), (5, .int r13), (0, .ref (ga X 25)), (1, .int x1), (2, .int x2), (4, .int x4)]) hx hb ddX5_fillSlot_83 hl (k := 4) rfl (by rw [ev19]; rfl) (by decide) rfl (fun ls hl => ?_)
          exact hJ86 _ _ _ _ _ _ _ _ hS (lv_sub hl [2, 3, 4, 0, 5] rfl) h
  have hJ27 : ∀ (x1 y1 : Int32) (σ : Mem) (H : Heap) (locs : List Loc) (ls : Array Slot), WS X A s.heap σ H locs → lv_has ls 6 [(0, .ref (ga X 25)), (1, .int x1)] → wpJ_X5_fillSlot_27 K x1 y1 σ → WI X K p l e ({ frames := 5, cells := 0, slots := 0, locals := 112 } : Room) s m args below meth c A H locs (F0 m 27 ls [.int y1, .ref (ga X 25)]) := by
    intro x1 y1 σ H locs ls hS hl h
    unfold wpJ_X5_fillSlot_27 at h
    refine k_VI (As := [.int y1]) (rest := []) (c_X5_fails l X h) mf_X5_fails lk1199 hx hb hml hown ht hK hZ hS hA 25 5 rfl rfl rfl ⟨rfl, rfl⟩ ⟨Nat.le_of_ble_eq_true rfl, Nat.le_of_ble_eq_true rfl⟩ rfl hl.1 rfl (Nat.le_of_ble_eq_true rfl) ⟨Nat.le_of_ble_eq_true rfl, Nat.le_of_ble_eq_true rfl⟩ ddX5_fillSlot_27 (fun r6 σ5 H locs hS h => ?_)
    refine lv_if_eq (tgt := 35) hx hb ddX5_fillSlot_30 (by decide) (fun c7 => ?_) (fun c7 => ?_)
    · replace h := h.1 c7
      refine lv_aload_n hx hb ddX5_fillSlot_35 rfl (lv_at hl 0 rfl) ?_
      refine lv_aload_n hx hb ddX5_fillSlot_36 rfl (lv_at hl 0 rfl) ?_
      refine get_25_0 hx hb hown ht hK hS lk1124 ddX5_fillSlot_37 ?_
      refine k_VV (As := [.ref (ga X 26)]) (rest := []) (c_X5_keeps_26 l X h) mf_X5_keeps lk1203 hx hb hml hown ht hK hZ hS hA 25 5 rfl rfl rfl ⟨rfl, rfl⟩ ⟨Nat.le_of_ble_eq_true rfl, Nat.le_of_ble_eq_true rfl⟩ rfl hl.1 rfl (Nat.le_of_ble_eq_true rfl) ⟨Nat.le_of_ble_eq_true rfl, Nat.le_of_ble_eq_true rfl⟩ ddX5_fillSlot_40 (fun σ8 H locs hS h => ?_)
      refine lv_iconst (v := (0 : Int32)) hx hb ddX5_fillSlot_43 (by decide) ?_
      refine lv_istore_n (lv' := [(2, .int (0 : Int32)), (0, .ref (ga X 25)), (1, .int x1)]) hx hb ddX5_fillSlot_44 rfl hl (by decide) rfl (fun ls hl => ?_)
      refine lv_iconst (v := (0 : Int32)) hx hb ddX5_fillSlot_45 (by decide) ?_
      refine lv_istore_n (lv' := [(3, .int (0 : Int32)), (2, .int (0 : Int32)), (0, .ref (ga X 25)), (1, .int x1)]) hx hb ddX5_fillSlot_46 rfl hl (by decide) rfl (fun ls hl => ?_)
      refine lv_aload_n hx hb ddX5_fillSlot_47 rfl (lv_at hl 2 rfl) ?_
      refine lv_iload_n hx hb ddX5_fillSlot_48 rfl (lv_at hl 3 rfl) ?_
      refine lv_iload_n hx hb ddX5_fillSlot_49 rfl (lv_at hl 1 rfl) ?_
      refine k_VI (As := [.int x1, .int (0 : Int32)]) (rest := []) (c_X5_nextGate l X h) mf_X5_nextGate lk1305 hx hb hml hown ht hK hZ hS hA 25 5 rfl rfl rfl ⟨rfl, rfl⟩ ⟨Nat.le_of_ble_eq_true rfl, Nat.le_of_ble_eq_true rfl⟩ rfl hl.1 rfl (Nat.le_of_ble_eq_true rfl) ⟨Nat.le_of_ble_eq_true rfl, Nat.le_of_ble_eq_true rfl⟩ ddX5_fillSlot_50 (fun r10 σ9 H locs hS h => ?_)
      refine lv_istore (lv' := [(4, .int r10), (3, .int (0 : Int32)), (2, .int (0 : Int32)), (0, .ref (ga X 25)), (1, .int x1)]) hx hb ddX5_fillSlot_53 hl (by decide) rfl (fun ls hl => ?_)
      obtain ⟨n, h⟩ := h
      exact hL55 n _ _ _ _ _ _ _ _ hS (lv_sub hl [3, 4, 2, 1, 0] rfl) h
    · replace h := h.2 c7
      refine lv_iconst (v := (0 : Int32)) hx hb ddX5_fillSlot_33 (by decide) ?_
      exact k_iret hx hb hr hlocks hK hS h ddX5_fillSlot_34
  unfold wp_X5_fillSlot at h
  refine lv_aload_n hx hb ddX5_fillSlot_0 rfl (lv_at hl 0 rfl) ?_
  refine lv_iload_n hx hb ddX5_fillSlot_1 rfl (lv_at hl 1 rfl) ?_
  refine k_SI (As := [.int x1]) (rest := [.ref (ga X 25)]) (c_X5_isSlot l X h) mf_X5_isSlot lk1258 hx hb hml hown ht hK hZ hS hA ⟨rfl, rfl⟩ ⟨Nat.le_of_ble_eq_true rfl, Nat.le_of_ble_eq_true rfl⟩ rfl hl.1 rfl (Nat.le_of_ble_eq_true rfl) ⟨Nat.le_of_ble_eq_true rfl, Nat.le_of_ble_eq_true rfl⟩ ddX5_fillSlot_2 (fun r2 σ1 H locs hS h => ?_)
  refine lv_if_ne (tgt := 12) hx hb ddX5_fillSlot_5 (by decide) (fun c3 => ?_) (fun c3 => ?_)
  · replace h := h.1 c3
    refine lv_iload_n hx hb ddX5_fillSlot_12 rfl (lv_at hl 1 rfl) ?_
    refine lv_aload_n hx hb ddX5_fillSlot_13 rfl (lv_at hl 0 rfl) ?_
    refine get_25_0 hx hb hown ht hK hS lk1124 ddX5_fillSlot_14 ?_
    refine lv_iconst (v := (2 : Int32)) hx hb ddX5_fillSlot_17 (by decide) ?_
    refine aldk_26 hx hb hK hS 2 (by unfold vp_in; decide) rfl ddX5_fillSlot_18 ?_
    refine lv_icmp_ge (tgt := 26) hx hb ddX5_fillSlot_19 (by decide) (fun c4 => ?_) (fun c4 => ?_)
    · replace h := h.1 c4
      refine lv_iconst (v := (0 : Int32)) hx hb ddX5_fillSlot_26 (by decide) ?_
      exact hJ27 _ _ _ _ _ _ hS (lv_sub hl [0, 1] rfl) h
    · replace h := h.2 c4
      refine lv_iconst (v := (2 : Int32)) hx hb ddX5_fillSlot_22 (by decide) ?_
      refine lv_goto (tgt := 27) hx hb ddX5_fillSlot_23 (by decide) ?_
      exact hJ27 _ _ _ _ _ _ hS (lv_sub hl [0, 1] rfl) h
  · replace h := h.2 c3
    refine lv_iconst (v := (1 : Int32)) hx hb ddX5_fillSlot_8 (by decide) ?_
    refine lv_goto (tgt := 27) hx hb ddX5_fillSlot_9 (by decide) ?_
    exact hJ27 _ _ _ _ _ _ hS (lv_sub hl [0, 1] rfl) h

set_option maxHeartbeats 4000000 in
set_option maxRecDepth 100000 in
theorem c_X5_guardAt (l : Launch) (X : GX) {x1 x2 : Int32} {σ : Mem} {K : Int32 → Mem → Prop} (h : wp_X5_guardAt x1 x2 σ K) : MI l X yX5_guardAt cX5_guardAt 3 ((Option.some Jvm.ClassFile.FieldType.int)) ({ frames := 3, cells := 0, slots := 0, locals := 65 } : Room) [.ref (ga X 25), .int x1, .int x2] σ K := by
  refine ent_met (QQ := fun A => va_Qi K (BW X A) A) (by decide) (Nat.le_of_ble_eq_true rfl) ?_
  intro p e s m args below meth c A ls hx hb hr hlocks hml hown ht hK hZ hA hS hl
  have hown : s.vm.findClass "GuardRosterModel" = some m.cls := hown
  have hl : lv_has ls 3 [(0, .ref (ga X 25)), (1, .int x1), (2, .int x2)] := hl
  have hJ28 : ∀ (x1 x2 y1 : Int32) (σ : Mem) (H : Heap) (locs : List Loc) (ls : Array Slot), WS X A s.heap σ H locs → lv_has ls 3 [(0, .ref (ga X 25)), (1, .int x1), (2, .int x2)] → wpJ_X5_guardAt_28 K x1 x2 y1 σ → WI X K p l e ({ frames := 3, cells := 0, slots := 0, locals := 65 } : Room) s m args below meth c A H locs (F0 m 28 ls [.int y1, .ref (ga X 25)]) := by
    intro x1 x2 y1 σ H locs ls hS hl h
    unfold wpJ_X5_guardAt_28 at h
    refine k_VI (As := [.int y1]) (rest := []) (c_X5_fails l X h) mf_X5_fails lk1199 hx hb hml hown ht hK hZ hS hA 25 5 rfl rfl rfl ⟨rfl, rfl⟩ ⟨Nat.le_of_ble_eq_true rfl, Nat.le_of_ble_eq_true rfl⟩ rfl hl.1 rfl (Nat.le_of_ble_eq_true rfl) ⟨Nat.le_of_ble_eq_true rfl, Nat.le_of_ble_eq_true rfl⟩ ddX5_guardAt_28 (fun r8 σ7 H locs hS h => ?_)
    refine lv_if_eq (tgt := 38) hx hb ddX5_guardAt_31 (by decide) (fun c9 => ?_) (fun c9 => ?_)
    · replace h := h.1 c9
      refine lv_aload_n hx hb ddX5_guardAt_38 rfl (lv_at hl 0 rfl) ?_
      refine lv_iload_n hx hb ddX5_guardAt_39 rfl (lv_at hl 1 rfl) ?_
      refine lv_iload_n hx hb ddX5_guardAt_40 rfl (lv_at hl 2 rfl) ?_
      refine k_VI (As := [.int x1, .int x2]) (rest := []) (c_X5_who l X h) mf_X5_who lk1269 hx hb hml hown ht hK hZ hS hA 25 5 rfl rfl rfl ⟨rfl, rfl⟩ ⟨Nat.le_of_ble_eq_true rfl, Nat.le_of_ble_eq_true rfl⟩ rfl hl.1 rfl (Nat.le_of_ble_eq_true rfl) ⟨Nat.le_of_ble_eq_true rfl, Nat.le_of_ble_eq_true rfl⟩ ddX5_guardAt_41 (fun r11 σ10 H locs hS h => ?_)
      exact k_iret hx hb hr hlocks hK hS h ddX5_guardAt_44
    · replace h := h.2 c9
      refine lv_iconst (v := (0 : Int32)) hx hb ddX5_guardAt_34 (by decide) ?_
      refine lv_goto (tgt := 44) hx hb ddX5_guardAt_35 (by decide) ?_
      exact k_iret hx hb hr hlocks hK hS h ddX5_guardAt_44
  unfold wp_X5_guardAt at h
  refine lv_aload_n hx hb ddX5_guardAt_0 rfl (lv_at hl 0 rfl) ?_
  refine lv_aload_n hx hb ddX5_guardAt_1 rfl (lv_at hl 0 rfl) ?_
  refine lv_iload_n hx hb ddX5_guardAt_2 rfl (lv_at hl 1 rfl) ?_
  refine lv_iload_n hx hb ddX5_guardAt_3 rfl (lv_at hl 2 rfl) ?_
  refine k_VI (As := [.int x1, .int x2]) (rest := [.ref (ga X 25)]) (c_X5_arePlace l X h) mf_X5_arePlace lk1254 hx hb hml hown ht hK hZ hS hA 25 5 rfl rfl rfl ⟨rfl, rfl⟩ ⟨Nat.le_of_ble_eq_true rfl, Nat.le_of_ble_eq_true rfl⟩ rfl hl.1 rfl (Nat.le_of_ble_eq_true rfl) ⟨Nat.le_of_ble_eq_true rfl, Nat.le_of_ble_eq_true rfl⟩ ddX5_guardAt_4 (fun r2 σ1 H locs hS h => ?_)
  refine lv_if_ne (tgt := 14) hx hb ddX5_guardAt_7 (by decide) (fun c3 => ?_) (fun c3 => ?_)
  · replace h := h.1 c3
    refine lv_aload_n hx hb ddX5_guardAt_14 rfl (lv_at hl 0 rfl) ?_
    refine lv_iload_n hx hb ddX5_guardAt_15 rfl (lv_at hl 1 rfl) ?_
    refine lv_iload_n hx hb ddX5_guardAt_16 rfl (lv_at hl 2 rfl) ?_
    refine k_VI (As := [.int x1, .int x2]) (rest := [.ref (ga X 25)]) (c_X5_who l X h) mf_X5_who lk1269 hx hb hml hown ht hK hZ hS hA 25 5 rfl rfl rfl ⟨rfl, rfl⟩ ⟨Nat.le_of_ble_eq_true rfl, Nat.le_of_ble_eq_true rfl⟩ rfl hl.1 rfl (Nat.le_of_ble_eq_true rfl) ⟨Nat.le_of_ble_eq_true rfl, Nat.le_of_ble_eq_true rfl⟩ ddX5_guardAt_17 (fun r5 σ4 H locs hS h => ?_)
    refine lv_if_ge (tgt := 27) hx hb ddX5_guardAt_20 (by decide) (fun c6 => ?_) (fun c6 => ?_)
    · replace h := h.1 c6
      refine lv_iconst (v := (0 : Int32)) hx hb ddX5_guardAt_27 (by decide) ?_
      exact hJ28 _ _ _ _ _ _ _ hS (lv_sub hl [0, 1, 2] rfl) h
    · replace h := h.2 c6
      refine lv_iconst (v := (2 : Int32)) hx hb ddX5_guardAt_23 (by decide) ?_
      refine lv_goto (tgt := 28) hx hb ddX5_guardAt_24 (by decide) ?_
      exact hJ28 _ _ _ _ _ _ _ hS (lv_sub hl [0, 1, 2] rfl) h
  · replace h := h.2 c3
    refine lv_iconst (v := (1 : Int32)) hx hb ddX5_guardAt_10 (by decide) ?_
    refine lv_goto (tgt := 28) hx hb ddX5_guardAt_11 (by decide) ?_
    exact hJ28 _ _ _ _ _ _ _ hS (lv_sub hl [0, 1, 2] rfl) h

set_option maxHeartbeats 4000000 in
set_option maxRecDepth 100000 in
theorem c_X5_gateOf (l : Launch) (X : GX) {x1 x2 : Int32} {σ : Mem} {K : Int32 → Mem → Prop} (h : wp_X5_gateOf x1 x2 σ K) : MI l X yX5_gateOf cX5_gateOf 3 ((Option.some Jvm.ClassFile.FieldType.int)) ({ frames := 3, cells := 0, slots := 0, locals := 65 } : Room) [.ref (ga X 25), .int x1, .int x2] σ K := by
  refine ent_met (QQ := fun A => va_Qi K (BW X A) A) (by decide) (Nat.le_of_ble_eq_true rfl) ?_
  intro p e s m args below meth c A ls hx hb hr hlocks hml hown ht hK hZ hA hS hl
  have hown : s.vm.findClass "GuardRosterModel" = some m.cls := hown
  have hl : lv_has ls 3 [(0, .ref (ga X 25)), (1, .int x1), (2, .int x2)] := hl
  have hJ34 : ∀ (x1 x2 y1 : Int32) (σ : Mem) (H : Heap) (locs : List Loc) (ls : Array Slot), WS X A s.heap σ H locs → lv_has ls 3 [(0, .ref (ga X 25)), (1, .int x1), (2, .int x2)] → wpJ_X5_gateOf_34 K x1 x2 y1 σ → WI X K p l e ({ frames := 3, cells := 0, slots := 0, locals := 65 } : Room) s m args below meth c A H locs (F0 m 34 ls [.int y1, .ref (ga X 25)]) := by
    intro x1 x2 y1 σ H locs ls hS hl h
    unfold wpJ_X5_gateOf_34 at h
    refine k_VI (As := [.int y1]) (rest := []) (c_X5_fails l X h) mf_X5_fails lk1199 hx hb hml hown ht hK hZ hS hA 25 5 rfl rfl rfl ⟨rfl, rfl⟩ ⟨Nat.le_of_ble_eq_true rfl, Nat.le_of_ble_eq_true rfl⟩ rfl hl.1 rfl (Nat.le_of_ble_eq_true rfl) ⟨Nat.le_of_ble_eq_true rfl, Nat.le_of_ble_eq_true rfl⟩ ddX5_gateOf_34 (fun r5 σ4 H locs hS h => ?_)
    refine lv_if_eq (tgt := 44) hx hb ddX5_gateOf_37 (by decide) (fun c6 => ?_) (fun c6 => ?_)
    · replace h := h.1 c6
      refine lv_aload_n hx hb ddX5_gateOf_44 rfl (lv_at hl 0 rfl) ?_
      refine lv_iload_n hx hb ddX5_gateOf_45 rfl (lv_at hl 1 rfl) ?_
      refine lv_iload_n hx hb ddX5_gateOf_46 rfl (lv_at hl 2 rfl) ?_
      refine k_VI (As := [.int x1, .int x2]) (rest := []) (c_X5_where l X h) mf_X5_where lk1277 hx hb hml hown ht hK hZ hS hA 25 5 rfl rfl rfl ⟨rfl, rfl⟩ ⟨Nat.le_of_ble_eq_true rfl, Nat.le_of_ble_eq_true rfl⟩ rfl hl.1 rfl (Nat.le_of_ble_eq_true rfl) ⟨Nat.le_of_ble_eq_true rfl, Nat.le_of_ble_eq_true rfl⟩ ddX5_gateOf_47 (fun r8 σ7 H locs hS h => ?_)
      exact k_iret hx hb hr hlocks hK hS h ddX5_gateOf_50
    · replace h := h.2 c6
      refine lv_iconst (v := (0 : Int32)) hx hb ddX5_gateOf_40 (by decide) ?_
      refine lv_goto (tgt := 50) hx hb ddX5_gateOf_41 (by decide) ?_
      exact k_iret hx hb hr hlocks hK hS h ddX5_gateOf_50
  have hJ16 : ∀ (x1 x2 : Int32) (σ : Mem) (H : Heap) (locs : List Loc) (ls : Array Slot), WS X A s.heap σ H locs → lv_has ls 3 [(0, .ref (ga X 25)), (1, .int x1), (2, .int x2)] → wpJ_X5_gateOf_16 K x1 x2 σ → WI X K p l e ({ frames := 3, cells := 0, slots := 0, locals := 65 } : Room) s m args below meth c A H locs (F0 m 16 ls [.ref (ga X 25)]) := by
    intro x1 x2 σ H locs ls hS hl h
    unfold wpJ_X5_gateOf_16 at h
    refine lv_iconst (v := (1 : Int32)) hx hb ddX5_gateOf_16 (by decide) ?_
    refine lv_goto (tgt := 34) hx hb ddX5_gateOf_17 (by decide) ?_
    exact hJ34 _ _ _ _ _ _ _ hS (lv_sub hl [0, 1, 2] rfl) h
  unfold wp_X5_gateOf at h
  refine lv_aload_n hx hb ddX5_gateOf_0 rfl (lv_at hl 0 rfl) ?_
  refine lv_aload_n hx hb ddX5_gateOf_1 rfl (lv_at hl 0 rfl) ?_
  refine lv_iload_n hx hb ddX5_gateOf_2 rfl (lv_at hl 1 rfl) ?_
  refine k_VI (As := [.int x1]) (rest := [.ref (ga X 25)]) (c_X5_isGuard l X h) mf_X5_isGuard lk1238 hx hb hml hown ht hK hZ hS hA 25 5 rfl rfl rfl ⟨rfl, rfl⟩ ⟨Nat.le_of_ble_eq_true rfl, Nat.le_of_ble_eq_true rfl⟩ rfl hl.1 rfl (Nat.le_of_ble_eq_true rfl) ⟨Nat.le_of_ble_eq_true rfl, Nat.le_of_ble_eq_true rfl⟩ ddX5_gateOf_3 (fun r2 σ1 H locs hS h => ?_)
  refine lv_if_eq (tgt := 16) hx hb ddX5_gateOf_6 (by decide) (fun c3 => ?_) (fun c3 => ?_)
  · replace h := h.1 c3
    exact hJ16 _ _ _ _ _ _ hS (lv_sub hl [0, 1, 2] rfl) h
  · replace h := h.2 c3
    refine lv_iload_n hx hb ddX5_gateOf_9 rfl (lv_at hl 2 rfl) ?_
    refine k_SI (As := [.int x2]) (rest := [.ref (ga X 25)]) (c_X5_isSlot l X h) mf_X5_isSlot lk1258 hx hb hml hown ht hK hZ hS hA ⟨rfl, rfl⟩ ⟨Nat.le_of_ble_eq_true rfl, Nat.le_of_ble_eq_true rfl⟩ rfl hl.1 rfl (Nat.le_of_ble_eq_true rfl) ⟨Nat.le_of_ble_eq_true rfl, Nat.le_of_ble_eq_true rfl⟩ ddX5_gateOf_10 (fun r10 σ9 H locs hS h => ?_)
    refine lv_if_ne (tgt := 20) hx hb ddX5_gateOf_13 (by decide) (fun c11 => ?_) (fun c11 => ?_)
    · replace h := h.1 c11
      refine lv_aload_n hx hb ddX5_gateOf_20 rfl (lv_at hl 0 rfl) ?_
      refine lv_iload_n hx hb ddX5_gateOf_21 rfl (lv_at hl 1 rfl) ?_
      refine lv_iload_n hx hb ddX5_gateOf_22 rfl (lv_at hl 2 rfl) ?_
      refine k_VI (As := [.int x1, .int x2]) (rest := [.ref (ga X 25)]) (c_X5_where l X h) mf_X5_where lk1277 hx hb hml hown ht hK hZ hS hA 25 5 rfl rfl rfl ⟨rfl, rfl⟩ ⟨Nat.le_of_ble_eq_true rfl, Nat.le_of_ble_eq_true rfl⟩ rfl hl.1 rfl (Nat.le_of_ble_eq_true rfl) ⟨Nat.le_of_ble_eq_true rfl, Nat.le_of_ble_eq_true rfl⟩ ddX5_gateOf_23 (fun r13 σ12 H locs hS h => ?_)
      refine lv_if_ge (tgt := 33) hx hb ddX5_gateOf_26 (by decide) (fun c14 => ?_) (fun c14 => ?_)
      · replace h := h.1 c14
        refine lv_iconst (v := (0 : Int32)) hx hb ddX5_gateOf_33 (by decide) ?_
        exact hJ34 _ _ _ _ _ _ _ hS (lv_sub hl [0, 1, 2] rfl) h
      · replace h := h.2 c14
        refine lv_iconst (v := (2 : Int32)) hx hb ddX5_gateOf_29 (by decide) ?_
        refine lv_goto (tgt := 34) hx hb ddX5_gateOf_30 (by decide) ?_
        exact hJ34 _ _ _ _ _ _ _ hS (lv_sub hl [0, 1, 2] rfl) h
    · replace h := h.2 c11
      exact hJ16 _ _ _ _ _ _ hS (lv_sub hl [0, 1, 2] rfl) h

set_option maxHeartbeats 4000000 in
set_option maxRecDepth 100000 in
theorem c_X5_dutiesOf (l : Launch) (X : GX) {x1 : Int32} {σ : Mem} {K : Int32 → Mem → Prop} (h : wp_X5_dutiesOf x1 σ K) : MI l X yX5_dutiesOf cX5_dutiesOf 2 ((Option.some Jvm.ClassFile.FieldType.int)) ({ frames := 3, cells := 0, slots := 0, locals := 64 } : Room) [.ref (ga X 25), .int x1] σ K := by
  refine ent_met (QQ := fun A => va_Qi K (BW X A) A) (by decide) (Nat.le_of_ble_eq_true rfl) ?_
  intro p e s m args below meth c A ls hx hb hr hlocks hml hown ht hK hZ hA hS hl
  have hown : s.vm.findClass "GuardRosterModel" = some m.cls := hown
  have hl : lv_has ls 2 [(0, .ref (ga X 25)), (1, .int x1)] := hl
  unfold wp_X5_dutiesOf at h
  refine lv_aload_n hx hb ddX5_dutiesOf_0 rfl (lv_at hl 0 rfl) ?_
  refine lv_iload_n hx hb ddX5_dutiesOf_1 rfl (lv_at hl 1 rfl) ?_
  refine k_VI (As := [.int x1]) (rest := []) (c_X5_isNone l X h) mf_X5_isNone lk1234 hx hb hml hown ht hK hZ hS hA 25 5 rfl rfl rfl ⟨rfl, rfl⟩ ⟨Nat.le_of_ble_eq_true rfl, Nat.le_of_ble_eq_true rfl⟩ rfl hl.1 rfl (Nat.le_of_ble_eq_true rfl) ⟨Nat.le_of_ble_eq_true rfl, Nat.le_of_ble_eq_true rfl⟩ ddX5_dutiesOf_2 (fun r2 σ1 H locs hS h => ?_)
  refine lv_if_eq (tgt := 12) hx hb ddX5_dutiesOf_5 (by decide) (fun c3 => ?_) (fun c3 => ?_)
  · replace h := h.1 c3
    refine lv_aload_n hx hb ddX5_dutiesOf_12 rfl (lv_at hl 0 rfl) ?_
    refine lv_iload_n hx hb ddX5_dutiesOf_13 rfl (lv_at hl 1 rfl) ?_
    refine k_VI (As := [.int x1]) (rest := []) (c_X5_duties l X h) mf_X5_duties lk1285 hx hb hml hown ht hK hZ hS hA 25 5 rfl rfl rfl ⟨rfl, rfl⟩ ⟨Nat.le_of_ble_eq_true rfl, Nat.le_of_ble_eq_true rfl⟩ rfl hl.1 rfl (Nat.le_of_ble_eq_true rfl) ⟨Nat.le_of_ble_eq_true rfl, Nat.le_of_ble_eq_true rfl⟩ ddX5_dutiesOf_14 (fun r5 σ4 H locs hS h => ?_)
    exact k_iret hx hb hr hlocks hK hS h ddX5_dutiesOf_17
  · replace h := h.2 c3
    refine lv_iconst (v := (0 : Int32)) hx hb ddX5_dutiesOf_8 (by decide) ?_
    refine lv_goto (tgt := 17) hx hb ddX5_dutiesOf_9 (by decide) ?_
    exact k_iret hx hb hr hlocks hK hS h ddX5_dutiesOf_17

set_option maxHeartbeats 4000000 in
set_option maxRecDepth 100000 in
theorem c_X5_allDuties (l : Launch) (X : GX) {σ : Mem} {K : Int32 → Mem → Prop} (h : wp_X5_allDuties σ K) : MI l X yX5_allDuties cX5_allDuties 3 ((Option.some Jvm.ClassFile.FieldType.int)) ({ frames := 0, cells := 0, slots := 0, locals := 0 } : Room) [.ref (ga X 25)] σ K := by
  refine ent_met (QQ := fun A => va_Qi K (BW X A) A) (by decide) (Nat.le_of_ble_eq_true rfl) ?_
  intro p e s m args below meth c A ls hx hb hr hlocks hml hown ht hK hZ hA hS hl
  have hown : s.vm.findClass "GuardRosterModel" = some m.cls := hown
  have hl : lv_has ls 3 [(0, .ref (ga X 25))] := hl
  have hL4 : ∀ (n : Nat) (x1 x2 : Int32) (σ : Mem) (H : Heap) (locs : List Loc) (ls : Array Slot), WS X A s.heap σ H locs → lv_has ls 3 [(0, .ref (ga X 25)), (1, .int x1), (2, .int x2)] → wlp (wpF_X5_allDuties_4 K) n (x1, x2, σ) → WI X K p l e ({ frames := 0, cells := 0, slots := 0, locals := 0 } : Room) s m args below meth c A H locs (F0 m 4 ls []) := by
    intro n4
    induction n4 with
    | zero => intro x1 x2 σ H locs ls hS hl h; exact h.elim
    | succ n4 ih4 =>
      have hJ35 : ∀ (x2 y0 y1 : Int32) (σ : Mem) (H : Heap) (locs : List Loc) (ls : Array Slot), WS X A s.heap σ H locs → lv_has ls 3 [(0, .ref (ga X 25)), (2, .int x2)] → wpJ_X5_allDuties_35 K (wlp (wpF_X5_allDuties_4 K) n4) x2 y0 y1 σ → WI X K p l e ({ frames := 0, cells := 0, slots := 0, locals := 0 } : Room) s m args below meth c A H locs (F0 m 35 ls [.int y1, .int y0]) := by
        intro x2 y0 y1 σ H locs ls hS hl h
        unfold wpJ_X5_allDuties_35 at h
        refine lv_iadd hx hb ddX5_allDuties_35 ?_
        refine lv_topi (fun v3 ev3 => ?_)
        replace h := h v3 ev3
        refine lv_istore_n (lv' := [(1, .int v3), (0, .ref (ga X 25)), (2, .int x2)]) hx hb ddX5_allDuties_36 rfl hl (by decide) rfl (fun ls hl => ?_)
        obtain ⟨v4, ev4⟩ : ∃ y : Int32, y = x2 + (1 : Int32) := ⟨_, rfl⟩
        replace h := h v4 ev4
        refine lv_iinc (v := v4) (lv' := [(2, .int v4), (1, .int v3), (0, .ref (ga X 25))]) hx hb ddX5_allDuties_37 hl (k := 2) rfl (by rw [ev4]; rfl) (by decide) rfl (fun ls hl => ?_)
        refine lv_goto (tgt := 4) hx hb ddX5_allDuties_40 (by decide) ?_
        exact ih4 _ _ _ _ _ _ hS (lv_sub hl [2, 1, 0] rfl) h
      intro x1 x2 σ H locs ls hS hl h
      replace h : wpS_X5_allDuties_4 K (wlp (wpF_X5_allDuties_4 K) n4) x1 x2 σ := h
      unfold wpS_X5_allDuties_4 at h
      refine lv_iload_n hx hb ddX5_allDuties_4 rfl (lv_at hl 2 rfl) ?_
      refine lv_bipush (v := (28 : Int32)) hx hb ddX5_allDuties_5 (by decide) ?_
      refine lv_aload_n hx hb ddX5_allDuties_7 rfl (lv_at hl 0 rfl) ?_
      refine get_25_0 hx hb hown ht hK hS lk1124 ddX5_allDuties_8 ?_
      refine lv_iconst (v := (0 : Int32)) hx hb ddX5_allDuties_11 (by decide) ?_
      refine aldk_26 hx hb hK hS 0 (by unfold vp_in; decide) rfl ddX5_allDuties_12 ?_
      refine lv_imul hx hb ddX5_allDuties_13 ?_
      refine lv_icmp_ge (tgt := 43) hx hb ddX5_allDuties_14 (by decide) (fun c1 => ?_) (fun c1 => ?_)
      · replace h := h.1 c1
        refine lv_iload_n hx hb ddX5_allDuties_43 rfl (lv_at hl 1 rfl) ?_
        exact k_iret hx hb hr hlocks hK hS h ddX5_allDuties_44
      · replace h := h.2 c1
        refine lv_iload_n hx hb ddX5_allDuties_17 rfl (lv_at hl 1 rfl) ?_
        refine lv_aload_n hx hb ddX5_allDuties_18 rfl (lv_at hl 0 rfl) ?_
        refine get_25_0 hx hb hown ht hK hS lk1124 ddX5_allDuties_19 ?_
        refine lv_bipush (v := (39 : Int32)) hx hb ddX5_allDuties_22 (by decide) ?_
        refine lv_iload_n hx hb ddX5_allDuties_24 rfl (lv_at hl 2 rfl) ?_
        refine lv_iadd hx hb ddX5_allDuties_25 ?_
        refine ald_26 hx hb hK hS h.1 ddX5_allDuties_26 ?_
        replace h := h.2
        refine lv_if_lt (tgt := 34) hx hb ddX5_allDuties_27 (by decide) (fun c2 => ?_) (fun c2 => ?_)
        · replace h := h.1 c2
          refine lv_iconst (v := (0 : Int32)) hx hb ddX5_allDuties_34 (by decide) ?_
          exact hJ35 _ _ _ _ _ _ _ hS (lv_sub hl [0, 2] rfl) h
        · replace h := h.2 c2
          refine lv_iconst (v := (1 : Int32)) hx hb ddX5_allDuties_30 (by decide) ?_
          refine lv_goto (tgt := 35) hx hb ddX5_allDuties_31 (by decide) ?_
          exact hJ35 _ _ _ _ _ _ _ hS (lv_sub hl [0, 2] rfl) h
  unfold wp_X5_allDuties at h
  refine lv_iconst (v := (0 : Int32)) hx hb ddX5_allDuties_0 (by decide) ?_
  refine lv_istore_n (lv' := [(1, .int (0 : Int32)), (0, .ref (ga X 25))]) hx hb ddX5_allDuties_1 rfl hl (by decide) rfl (fun ls hl => ?_)
  refine lv_iconst (v := (0 : Int32)) hx hb ddX5_allDuties_2 (by decide) ?_
  refine lv_istore_n (lv' := [(2, .int (0 : Int32)), (1, .int (0 : Int32)), (0, .ref (ga X 25))]) hx hb ddX5_allDuties_3 rfl hl (by decide) rfl (fun ls hl => ?_)
  obtain ⟨n, h⟩ := h
  exact hL4 n _ _ _ _ _ _ hS (lv_sub hl [2, 1, 0] rfl) h

set_option maxHeartbeats 4000000 in
set_option maxRecDepth 100000 in
theorem c_X5_dutyCount (l : Launch) (X : GX) {σ : Mem} {K : Int32 → Mem → Prop} (h : wp_X5_dutyCount σ K) : MI l X yX5_dutyCount cX5_dutyCount 1 ((Option.some Jvm.ClassFile.FieldType.int)) ({ frames := 1, cells := 0, slots := 0, locals := 22 } : Room) [.ref (ga X 25)] σ K := by
  refine ent_met (QQ := fun A => va_Qi K (BW X A) A) (by decide) (Nat.le_of_ble_eq_true rfl) ?_
  intro p e s m args below meth c A ls hx hb hr hlocks hml hown ht hK hZ hA hS hl
  have hown : s.vm.findClass "GuardRosterModel" = some m.cls := hown
  have hl : lv_has ls 1 [(0, .ref (ga X 25))] := hl
  unfold wp_X5_dutyCount at h
  refine lv_aload_n hx hb ddX5_dutyCount_0 rfl (lv_at hl 0 rfl) ?_
  refine lv_iconst (v := (0 : Int32)) hx hb ddX5_dutyCount_1 (by decide) ?_
  refine put_25_7 hx hb hown ht hK hS lk1131 ddX5_dutyCount_2 (fun H locs hS => ?_)
  obtain ⟨σ1, eσ1⟩ : ∃ y : Mem, y = (st σ 25 7 (0 : Int32)) := ⟨_, rfl⟩
  rw [← eσ1] at hS
  replace h := h σ1 eσ1
  refine lv_aload_n hx hb ddX5_dutyCount_5 rfl (lv_at hl 0 rfl) ?_
  refine k_VI (As := []) (rest := []) (c_X5_allDuties l X h) mf_X5_allDuties lk1333 hx hb hml hown ht hK hZ hS hA 25 5 rfl rfl rfl ⟨rfl, rfl⟩ ⟨Nat.le_of_ble_eq_true rfl, Nat.le_of_ble_eq_true rfl⟩ rfl hl.1 rfl (Nat.le_of_ble_eq_true rfl) ⟨Nat.le_of_ble_eq_true rfl, Nat.le_of_ble_eq_true rfl⟩ ddX5_dutyCount_6 (fun r3 σ2 H locs hS h => ?_)
  exact k_iret hx hb hr hlocks hK hS h ddX5_dutyCount_9

set_option maxHeartbeats 4000000 in
set_option maxRecDepth 100000 in
theorem c_X5_open (l : Launch) (X : GX) {x1 : Int32} {σ : Mem} {K : Int32 → Mem → Prop} (h : wp_X5_open x1 σ K) : MI l X yX5_open cX5_open 4 ((Option.some Jvm.ClassFile.FieldType.int)) ({ frames := 1, cells := 0, slots := 0, locals := 22 } : Room) [.ref (ga X 25), .int x1] σ K := by
  refine ent_met (QQ := fun A => va_Qi K (BW X A) A) (by decide) (Nat.le_of_ble_eq_true rfl) ?_
  intro p e s m args below meth c A ls hx hb hr hlocks hml hown ht hK hZ hA hS hl
  have hown : s.vm.findClass "GuardRosterModel" = some m.cls := hown
  have hl : lv_has ls 4 [(0, .ref (ga X 25)), (1, .int x1)] := hl
  have hL4 : ∀ (n : Nat) (x1 x2 x3 : Int32) (σ : Mem) (H : Heap) (locs : List Loc) (ls : Array Slot), WS X A s.heap σ H locs → lv_has ls 4 [(0, .ref (ga X 25)), (1, .int x1), (2, .int x2), (3, .int x3)] → wlp (wpF_X5_open_4 K) n (x1, x2, x3, σ) → WI X K p l e ({ frames := 1, cells := 0, slots := 0, locals := 22 } : Room) s m args below meth c A H locs (F0 m 4 ls []) := by
    intro n4
    induction n4 with
    | zero => intro x1 x2 x3 σ H locs ls hS hl h; exact h.elim
    | succ n4 ih4 =>
      have hJ29 : ∀ (x1 x3 y0 y1 : Int32) (σ : Mem) (H : Heap) (locs : List Loc) (ls : Array Slot), WS X A s.heap σ H locs → lv_has ls 4 [(0, .ref (ga X 25)), (1, .int x1), (3, .int x3)] → wpJ_X5_open_29 K (wlp (wpF_X5_open_4 K) n4) x1 x3 y0 y1 σ → WI X K p l e ({ frames := 1, cells := 0, slots := 0, locals := 22 } : Room) s m args below meth c A H locs (F0 m 29 ls [.int y1, .int y0]) := by
        intro x1 x3 y0 y1 σ H locs ls hS hl h
        unfold wpJ_X5_open_29 at h
        refine lv_iadd hx hb ddX5_open_29 ?_
        refine lv_topi (fun v5 ev5 => ?_)
        replace h := h v5 ev5
        refine lv_istore_n (lv' := [(2, .int v5), (0, .ref (ga X 25)), (1, .int x1), (3, .int x3)]) hx hb ddX5_open_30 rfl hl (by decide) rfl (fun ls hl => ?_)
        obtain ⟨v6, ev6⟩ : ∃ y : Int32, y = x3 + (1 : Int32) := ⟨_, rfl⟩
        replace h := h v6 ev6
        refine lv_iinc (v := v6) (lv' := [(3, .int v6), (2, .int v5), (0, .ref (ga X 25)), (1, .int x1)]) hx hb ddX5_open_31 hl (k := 3) rfl (by rw [ev6]; rfl) (by decide) rfl (fun ls hl => ?_)
        refine lv_goto (tgt := 4) hx hb ddX5_open_34 (by decide) ?_
        exact ih4 _ _ _ _ _ _ _ hS (lv_sub hl [2, 3, 1, 0] rfl) h
      intro x1 x2 x3 σ H locs ls hS hl h
      replace h : wpS_X5_open_4 K (wlp (wpF_X5_open_4 K) n4) x1 x2 x3 σ := h
      unfold wpS_X5_open_4 at h
      refine lv_iload_n hx hb ddX5_open_4 rfl (lv_at hl 3 rfl) ?_
      refine lv_aload_n hx hb ddX5_open_5 rfl (lv_at hl 0 rfl) ?_
      refine get_25_0 hx hb hown ht hK hS lk1124 ddX5_open_6 ?_
      refine lv_iconst (v := (0 : Int32)) hx hb ddX5_open_9 (by decide) ?_
      refine aldk_26 hx hb hK hS 0 (by unfold vp_in; decide) rfl ddX5_open_10 ?_
      refine lv_icmp_ge (tgt := 37) hx hb ddX5_open_11 (by decide) (fun c1 => ?_) (fun c1 => ?_)
      · replace h := h.1 c1
        refine lv_iload_n hx hb ddX5_open_37 rfl (lv_at hl 2 rfl) ?_
        exact k_iret hx hb hr hlocks hK hS h ddX5_open_38
      · replace h := h.2 c1
        refine lv_iload_n hx hb ddX5_open_14 rfl (lv_at hl 2 rfl) ?_
        refine lv_aload_n hx hb ddX5_open_15 rfl (lv_at hl 0 rfl) ?_
        refine lv_iload_n hx hb ddX5_open_16 rfl (lv_at hl 3 rfl) ?_
        refine lv_iload_n hx hb ddX5_open_17 rfl (lv_at hl 1 rfl) ?_
        refine k_VI (As := [.int x3, .int x1]) (rest := [.int x2]) (c_X5_who l X h) mf_X5_who lk1269 hx hb hml hown ht hK hZ hS hA 25 5 rfl rfl rfl ⟨rfl, rfl⟩ ⟨Nat.le_of_ble_eq_true rfl, Nat.le_of_ble_eq_true rfl⟩ rfl hl.1 rfl (Nat.le_of_ble_eq_true rfl) ⟨Nat.le_of_ble_eq_true rfl, Nat.le_of_ble_eq_true rfl⟩ ddX5_open_18 (fun r3 σ2 H locs hS h => ?_)
        refine lv_if_ge (tgt := 28) hx hb ddX5_open_21 (by decide) (fun c4 => ?_) (fun c4 => ?_)
        · replace h := h.1 c4
          refine lv_iconst (v := (0 : Int32)) hx hb ddX5_open_28 (by decide) ?_
          exact hJ29 _ _ _ _ _ _ _ _ hS (lv_sub hl [0, 1, 3] rfl) h
        · replace h := h.2 c4
          refine lv_iconst (v := (1 : Int32)) hx hb ddX5_open_24 (by decide) ?_
          refine lv_goto (tgt := 29) hx hb ddX5_open_25 (by decide) ?_
          exact hJ29 _ _ _ _ _ _ _ _ hS (lv_sub hl [0, 1, 3] rfl) h
  unfold wp_X5_open at h
  refine lv_iconst (v := (0 : Int32)) hx hb ddX5_open_0 (by decide) ?_
  refine lv_istore_n (lv' := [(2, .int (0 : Int32)), (0, .ref (ga X 25)), (1, .int x1)]) hx hb ddX5_open_1 rfl hl (by decide) rfl (fun ls hl => ?_)
  refine lv_iconst (v := (0 : Int32)) hx hb ddX5_open_2 (by decide) ?_
  refine lv_istore_n (lv' := [(3, .int (0 : Int32)), (2, .int (0 : Int32)), (0, .ref (ga X 25)), (1, .int x1)]) hx hb ddX5_open_3 rfl hl (by decide) rfl (fun ls hl => ?_)
  obtain ⟨n, h⟩ := h
  exact hL4 n _ _ _ _ _ _ _ hS (lv_sub hl [2, 3, 1, 0] rfl) h

set_option maxHeartbeats 4000000 in
set_option maxRecDepth 100000 in
theorem c_X5_openGates (l : Launch) (X : GX) {x1 : Int32} {σ : Mem} {K : Int32 → Mem → Prop} (h : wp_X5_openGates x1 σ K) : MI l X yX5_openGates cX5_openGates 2 ((Option.some Jvm.ClassFile.FieldType.int)) ({ frames := 2, cells := 0, slots := 0, locals := 45 } : Room) [.ref (ga X 25), .int x1] σ K := by
  refine ent_met (QQ := fun A => va_Qi K (BW X A) A) (by decide) (Nat.le_of_ble_eq_true rfl) ?_
  intro p e s m args below meth c A ls hx hb hr hlocks hml hown ht hK hZ hA hS hl
  have hown : s.vm.findClass "GuardRosterModel" = some m.cls := hown
  have hl : lv_has ls 2 [(0, .ref (ga X 25)), (1, .int x1)] := hl
  have hJ13 : ∀ (x1 y1 : Int32) (σ : Mem) (H : Heap) (locs : List Loc) (ls : Array Slot), WS X A s.heap σ H locs → lv_has ls 2 [(0, .ref (ga X 25)), (1, .int x1)] → wpJ_X5_openGates_13 K x1 y1 σ → WI X K p l e ({ frames := 2, cells := 0, slots := 0, locals := 45 } : Room) s m args below meth c A H locs (F0 m 13 ls [.int y1, .ref (ga X 25)]) := by
    intro x1 y1 σ H locs ls hS hl h
    unfold wpJ_X5_openGates_13 at h
    refine k_VI (As := [.int y1]) (rest := []) (c_X5_fails l X h) mf_X5_fails lk1199 hx hb hml hown ht hK hZ hS hA 25 5 rfl rfl rfl ⟨rfl, rfl⟩ ⟨Nat.le_of_ble_eq_true rfl, Nat.le_of_ble_eq_true rfl⟩ rfl hl.1 rfl (Nat.le_of_ble_eq_true rfl) ⟨Nat.le_of_ble_eq_true rfl, Nat.le_of_ble_eq_true rfl⟩ ddX5_openGates_13 (fun r5 σ4 H locs hS h => ?_)
    refine lv_if_eq (tgt := 23) hx hb ddX5_openGates_16 (by decide) (fun c6 => ?_) (fun c6 => ?_)
    · replace h := h.1 c6
      refine lv_aload_n hx hb ddX5_openGates_23 rfl (lv_at hl 0 rfl) ?_
      refine lv_iload_n hx hb ddX5_openGates_24 rfl (lv_at hl 1 rfl) ?_
      refine k_VI (As := [.int x1]) (rest := []) (c_X5_open l X h) mf_X5_open lk1341 hx hb hml hown ht hK hZ hS hA 25 5 rfl rfl rfl ⟨rfl, rfl⟩ ⟨Nat.le_of_ble_eq_true rfl, Nat.le_of_ble_eq_true rfl⟩ rfl hl.1 rfl (Nat.le_of_ble_eq_true rfl) ⟨Nat.le_of_ble_eq_true rfl, Nat.le_of_ble_eq_true rfl⟩ ddX5_openGates_25 (fun r8 σ7 H locs hS h => ?_)
      exact k_iret hx hb hr hlocks hK hS h ddX5_openGates_28
    · replace h := h.2 c6
      refine lv_iconst (v := (0 : Int32)) hx hb ddX5_openGates_19 (by decide) ?_
      refine lv_goto (tgt := 28) hx hb ddX5_openGates_20 (by decide) ?_
      exact k_iret hx hb hr hlocks hK hS h ddX5_openGates_28
  unfold wp_X5_openGates at h
  refine lv_aload_n hx hb ddX5_openGates_0 rfl (lv_at hl 0 rfl) ?_
  refine lv_iload_n hx hb ddX5_openGates_1 rfl (lv_at hl 1 rfl) ?_
  refine k_SI (As := [.int x1]) (rest := [.ref (ga X 25)]) (c_X5_isSlot l X h) mf_X5_isSlot lk1258 hx hb hml hown ht hK hZ hS hA ⟨rfl, rfl⟩ ⟨Nat.le_of_ble_eq_true rfl, Nat.le_of_ble_eq_true rfl⟩ rfl hl.1 rfl (Nat.le_of_ble_eq_true rfl) ⟨Nat.le_of_ble_eq_true rfl, Nat.le_of_ble_eq_true rfl⟩ ddX5_openGates_2 (fun r2 σ1 H locs hS h => ?_)
  refine lv_if_eq (tgt := 12) hx hb ddX5_openGates_5 (by decide) (fun c3 => ?_) (fun c3 => ?_)
  · replace h := h.1 c3
    refine lv_iconst (v := (1 : Int32)) hx hb ddX5_openGates_12 (by decide) ?_
    exact hJ13 _ _ _ _ _ _ hS (lv_sub hl [0, 1] rfl) h
  · replace h := h.2 c3
    refine lv_iconst (v := (0 : Int32)) hx hb ddX5_openGates_8 (by decide) ?_
    refine lv_goto (tgt := 13) hx hb ddX5_openGates_9 (by decide) ?_
    exact hJ13 _ _ _ _ _ _ hS (lv_sub hl [0, 1] rfl) h

set_option maxHeartbeats 4000000 in
set_option maxRecDepth 100000 in
theorem c_X5_openFromNow (l : Launch) (X : GX) {σ : Mem} {K : Int32 → Mem → Prop} (h : wp_X5_openFromNow σ K) : MI l X yX5_openFromNow cX5_openFromNow 3 ((Option.some Jvm.ClassFile.FieldType.int)) ({ frames := 2, cells := 0, slots := 0, locals := 45 } : Room) [.ref (ga X 25)] σ K := by
  refine ent_met (QQ := fun A => va_Qi K (BW X A) A) (by decide) (Nat.le_of_ble_eq_true rfl) ?_
  intro p e s m args below meth c A ls hx hb hr hlocks hml hown ht hK hZ hA hS hl
  have hown : s.vm.findClass "GuardRosterModel" = some m.cls := hown
  have hl : lv_has ls 3 [(0, .ref (ga X 25))] := hl
  have hL14 : ∀ (n : Nat) (x1 x2 : Int32) (σ : Mem) (H : Heap) (locs : List Loc) (ls : Array Slot), WS X A s.heap σ H locs → lv_has ls 3 [(0, .ref (ga X 25)), (1, .int x1), (2, .int x2)] → wlp (wpF_X5_openFromNow_14 K) n (x1, x2, σ) → WI X K p l e ({ frames := 2, cells := 0, slots := 0, locals := 45 } : Room) s m args below meth c A H locs (F0 m 14 ls []) := by
    intro n14
    induction n14 with
    | zero => intro x1 x2 σ H locs ls hS hl h; exact h.elim
    | succ n14 ih14 =>
      intro x1 x2 σ H locs ls hS hl h
      replace h : wpS_X5_openFromNow_14 K (wlp (wpF_X5_openFromNow_14 K) n14) x1 x2 σ := h
      unfold wpS_X5_openFromNow_14 at h
      refine lv_iload_n hx hb ddX5_openFromNow_14 rfl (lv_at hl 2 rfl) ?_
      refine lv_bipush (v := (28 : Int32)) hx hb ddX5_openFromNow_15 (by decide) ?_
      refine lv_icmp_ge (tgt := 34) hx hb ddX5_openFromNow_17 (by decide) (fun c3 => ?_) (fun c3 => ?_)
      · replace h := h.1 c3
        refine lv_iload_n hx hb ddX5_openFromNow_34 rfl (lv_at hl 1 rfl) ?_
        exact k_iret hx hb hr hlocks hK hS h ddX5_openFromNow_35
      · replace h := h.2 c3
        refine lv_iload_n hx hb ddX5_openFromNow_20 rfl (lv_at hl 1 rfl) ?_
        refine lv_aload_n hx hb ddX5_openFromNow_21 rfl (lv_at hl 0 rfl) ?_
        refine lv_iload_n hx hb ddX5_openFromNow_22 rfl (lv_at hl 2 rfl) ?_
        refine k_VI (As := [.int x2]) (rest := [.int x1]) (c_X5_open l X h) mf_X5_open lk1341 hx hb hml hown ht hK hZ hS hA 25 5 rfl rfl rfl ⟨rfl, rfl⟩ ⟨Nat.le_of_ble_eq_true rfl, Nat.le_of_ble_eq_true rfl⟩ rfl hl.1 rfl (Nat.le_of_ble_eq_true rfl) ⟨Nat.le_of_ble_eq_true rfl, Nat.le_of_ble_eq_true rfl⟩ ddX5_openFromNow_23 (fun r5 σ4 H locs hS h => ?_)
        refine lv_iadd hx hb ddX5_openFromNow_26 ?_
        refine lv_topi (fun v6 ev6 => ?_)
        replace h := h v6 ev6
        refine lv_istore_n (lv' := [(1, .int v6), (0, .ref (ga X 25)), (2, .int x2)]) hx hb ddX5_openFromNow_27 rfl hl (by decide) rfl (fun ls hl => ?_)
        obtain ⟨v7, ev7⟩ : ∃ y : Int32, y = x2 + (1 : Int32) := ⟨_, rfl⟩
        replace h := h v7 ev7
        refine lv_iinc (v := v7) (lv' := [(2, .int v7), (1, .int v6), (0, .ref (ga X 25))]) hx hb ddX5_openFromNow_28 hl (k := 2) rfl (by rw [ev7]; rfl) (by decide) rfl (fun ls hl => ?_)
        refine lv_goto (tgt := 14) hx hb ddX5_openFromNow_31 (by decide) ?_
        exact ih14 _ _ _ _ _ _ hS (lv_sub hl [2, 1, 0] rfl) h
  unfold wp_X5_openFromNow at h
  refine lv_aload_n hx hb ddX5_openFromNow_0 rfl (lv_at hl 0 rfl) ?_
  refine lv_iconst (v := (0 : Int32)) hx hb ddX5_openFromNow_1 (by decide) ?_
  refine put_25_7 hx hb hown ht hK hS lk1131 ddX5_openFromNow_2 (fun H locs hS => ?_)
  obtain ⟨σ1, eσ1⟩ : ∃ y : Mem, y = (st σ 25 7 (0 : Int32)) := ⟨_, rfl⟩
  rw [← eσ1] at hS
  replace h := h σ1 eσ1
  refine lv_iconst (v := (0 : Int32)) hx hb ddX5_openFromNow_5 (by decide) ?_
  refine lv_istore_n (lv' := [(1, .int (0 : Int32)), (0, .ref (ga X 25))]) hx hb ddX5_openFromNow_6 rfl hl (by decide) rfl (fun ls hl => ?_)
  refine lv_aload_n hx hb ddX5_openFromNow_7 rfl (lv_at hl 1 rfl) ?_
  refine get_25_0 hx hb hown ht hK hS lk1124 ddX5_openFromNow_8 ?_
  refine lv_iconst (v := (2 : Int32)) hx hb ddX5_openFromNow_11 (by decide) ?_
  refine aldk_26 hx hb hK hS 2 (by unfold vp_in; decide) rfl ddX5_openFromNow_12 ?_
  refine lv_topi (fun v2 ev2 => ?_)
  replace h := h v2 ev2
  refine lv_istore_n (lv' := [(2, .int v2), (1, .int (0 : Int32)), (0, .ref (ga X 25))]) hx hb ddX5_openFromNow_13 rfl hl (by decide) rfl (fun ls hl => ?_)
  obtain ⟨n, h⟩ := h
  exact hL14 n _ _ _ _ _ _ hS (lv_sub hl [2, 1, 0] rfl) h

set_option maxHeartbeats 4000000 in
set_option maxRecDepth 100000 in
theorem c_X5_openPlaces (l : Launch) (X : GX) {σ : Mem} {K : Int32 → Mem → Prop} (h : wp_X5_openPlaces σ K) : MI l X yX5_openPlaces cX5_openPlaces 1 ((Option.some Jvm.ClassFile.FieldType.int)) ({ frames := 3, cells := 0, slots := 0, locals := 67 } : Room) [.ref (ga X 25)] σ K := by
  refine ent_met (QQ := fun A => va_Qi K (BW X A) A) (by decide) (Nat.le_of_ble_eq_true rfl) ?_
  intro p e s m args below meth c A ls hx hb hr hlocks hml hown ht hK hZ hA hS hl
  have hown : s.vm.findClass "GuardRosterModel" = some m.cls := hown
  have hl : lv_has ls 1 [(0, .ref (ga X 25))] := hl
  unfold wp_X5_openPlaces at h
  refine lv_aload_n hx hb ddX5_openPlaces_0 rfl (lv_at hl 0 rfl) ?_
  refine k_VI (As := []) (rest := []) (c_X5_openFromNow l X h) mf_X5_openFromNow lk1349 hx hb hml hown ht hK hZ hS hA 25 5 rfl rfl rfl ⟨rfl, rfl⟩ ⟨Nat.le_of_ble_eq_true rfl, Nat.le_of_ble_eq_true rfl⟩ rfl hl.1 rfl (Nat.le_of_ble_eq_true rfl) ⟨Nat.le_of_ble_eq_true rfl, Nat.le_of_ble_eq_true rfl⟩ ddX5_openPlaces_1 (fun r2 σ1 H locs hS h => ?_)
  exact k_iret hx hb hr hlocks hK hS h ddX5_openPlaces_4

set_option maxHeartbeats 4000000 in
set_option maxRecDepth 100000 in
theorem c_X5_openPlacesBySlots (l : Launch) (X : GX) {σ : Mem} {K : Int32 → Mem → Prop} (h : wp_X5_openPlacesBySlots σ K) : MI l X yX5_openPlacesBySlots cX5_openPlacesBySlots 1 ((Option.some Jvm.ClassFile.FieldType.int)) ({ frames := 3, cells := 0, slots := 0, locals := 67 } : Room) [.ref (ga X 25)] σ K := by
  refine ent_met (QQ := fun A => va_Qi K (BW X A) A) (by decide) (Nat.le_of_ble_eq_true rfl) ?_
  intro p e s m args below meth c A ls hx hb hr hlocks hml hown ht hK hZ hA hS hl
  have hown : s.vm.findClass "GuardRosterModel" = some m.cls := hown
  have hl : lv_has ls 1 [(0, .ref (ga X 25))] := hl
  unfold wp_X5_openPlacesBySlots at h
  refine lv_aload_n hx hb ddX5_openPlacesBySlots_0 rfl (lv_at hl 0 rfl) ?_
  refine k_VI (As := []) (rest := []) (c_X5_openFromNow l X h) mf_X5_openFromNow lk1349 hx hb hml hown ht hK hZ hS hA 25 5 rfl rfl rfl ⟨rfl, rfl⟩ ⟨Nat.le_of_ble_eq_true rfl, Nat.le_of_ble_eq_true rfl⟩ rfl hl.1 rfl (Nat.le_of_ble_eq_true rfl) ⟨Nat.le_of_ble_eq_true rfl, Nat.le_of_ble_eq_true rfl⟩ ddX5_openPlacesBySlots_1 (fun r2 σ1 H locs hS h => ?_)
  exact k_iret hx hb hr hlocks hK hS h ddX5_openPlacesBySlots_4

set_option maxHeartbeats 4000000 in
set_option maxRecDepth 100000 in
theorem c_X5_most (l : Launch) (X : GX) {x1 : Int32} {σ : Mem} {K : Int32 → Mem → Prop} (h : wp_X5_most x1 σ K) : MI l X yX5_most cX5_most 6 ((Option.some Jvm.ClassFile.FieldType.int)) ({ frames := 4, cells := 0, slots := 0, locals := 88 } : Room) [.ref (ga X 25), .int x1] σ K := by
  refine ent_met (QQ := fun A => va_Qi K (BW X A) A) (by decide) (Nat.le_of_ble_eq_true rfl) ?_
  intro p e s m args below meth c A ls hx hb hr hlocks hml hown ht hK hZ hA hS hl
  have hown : s.vm.findClass "GuardRosterModel" = some m.cls := hown
  have hl : lv_has ls 6 [(0, .ref (ga X 25)), (1, .int x1)] := hl
  have hL172 : ∀ (n : Nat) (x2 x3 : Int32) (σ : Mem) (H : Heap) (locs : List Loc) (ls : Array Slot), WS X A s.heap σ H locs → lv_has ls 6 [(0, .ref (ga X 25)), (2, .int x2), (3, .int x3)] → wlp (wpF_X5_most_172 K) n (x2, x3, σ) → WI X K p l e ({ frames := 4, cells := 0, slots := 0, locals := 88 } : Room) s m args below meth c A H locs (F0 m 172 ls []) := by
    intro n172
    induction n172 with
    | zero => intro x2 x3 σ H locs ls hS hl h; exact h.elim
    | succ n172 ih172 =>
      have hJ195 : ∀ (x2 x3 : Int32) (σ : Mem) (H : Heap) (locs : List Loc) (ls : Array Slot), WS X A s.heap σ H locs → lv_has ls 6 [(0, .ref (ga X 25)), (2, .int x2), (3, .int x3)] → wpJ_X5_most_195 K (wlp (wpF_X5_most_172 K) n172) x2 x3 σ → WI X K p l e ({ frames := 4, cells := 0, slots := 0, locals := 88 } : Room) s m args below meth c A H locs (F0 m 195 ls []) := by
        intro x2 x3 σ H locs ls hS hl h
        unfold wpJ_X5_most_195 at h
        obtain ⟨v11, ev11⟩ : ∃ y : Int32, y = x3 + (1 : Int32) := ⟨_, rfl⟩
        replace h := h v11 ev11
        refine lv_iinc (v := v11) (lv' := [(3, .int v11), (0, .ref (ga X 25)), (2, .int x2)]) hx hb ddX5_most_195 hl (k := 2) rfl (by rw [ev11]; rfl) (by decide) rfl (fun ls hl => ?_)
        refine lv_goto (tgt := 172) hx hb ddX5_most_198 (by decide) ?_
        exact ih172 _ _ _ _ _ _ hS (lv_sub hl [1, 2, 0] rfl) h
      intro x2 x3 σ H locs ls hS hl h
      replace h : wpS_X5_most_172 K (wlp (wpF_X5_most_172 K) n172) x2 x3 σ := h
      unfold wpS_X5_most_172 at h
      refine lv_iload_n hx hb ddX5_most_172 rfl (lv_at hl 2 rfl) ?_
      refine lv_bipush (v := (32 : Int32)) hx hb ddX5_most_173 (by decide) ?_
      refine lv_icmp_ge (tgt := 201) hx hb ddX5_most_175 (by decide) (fun c9 => ?_) (fun c9 => ?_)
      · replace h := h.1 c9
        refine lv_iload_n hx hb ddX5_most_201 rfl (lv_at hl 1 rfl) ?_
        exact k_iret hx hb hr hlocks hK hS h ddX5_most_202
      · replace h := h.2 c9
        refine lv_aload_n hx hb ddX5_most_178 rfl (lv_at hl 0 rfl) ?_
        refine get_25_17 hx hb hown ht hK hS lk1141 ddX5_most_179 ?_
        refine lv_iload_n hx hb ddX5_most_182 rfl (lv_at hl 2 rfl) ?_
        refine ald_32 hx hb hK hS h.1 ddX5_most_183 ?_
        replace h := h.2
        refine lv_iload_n hx hb ddX5_most_184 rfl (lv_at hl 1 rfl) ?_
        refine lv_icmp_le (tgt := 195) hx hb ddX5_most_185 (by decide) (fun c10 => ?_) (fun c10 => ?_)
        · replace h := h.1 c10
          exact hJ195 _ _ _ _ _ _ hS (lv_sub hl [0, 1, 2] rfl) h
        · replace h := h.2 c10
          refine lv_aload_n hx hb ddX5_most_188 rfl (lv_at hl 0 rfl) ?_
          refine get_25_17 hx hb hown ht hK hS lk1141 ddX5_most_189 ?_
          refine lv_iload_n hx hb ddX5_most_192 rfl (lv_at hl 2 rfl) ?_
          refine ald_32 hx hb hK hS h.1 ddX5_most_193 ?_
          replace h := h.2
          refine lv_topi (fun v12 ev12 => ?_)
          replace h := h v12 ev12
          refine lv_istore_n (lv' := [(2, .int v12), (0, .ref (ga X 25)), (3, .int x3)]) hx hb ddX5_most_194 rfl hl (by decide) rfl (fun ls hl => ?_)
          exact hJ195 _ _ _ _ _ _ hS (lv_sub hl [1, 0, 2] rfl) h
  have hJ168 : ∀ (σ : Mem) (H : Heap) (locs : List Loc) (ls : Array Slot), WS X A s.heap σ H locs → lv_has ls 6 [(0, .ref (ga X 25))] → wpJ_X5_most_168 K σ → WI X K p l e ({ frames := 4, cells := 0, slots := 0, locals := 88 } : Room) s m args below meth c A H locs (F0 m 168 ls []) := by
    intro  σ H locs ls hS hl h
    unfold wpJ_X5_most_168 at h
    refine lv_iconst (v := (0 : Int32)) hx hb ddX5_most_168 (by decide) ?_
    refine lv_istore_n (lv' := [(2, .int (0 : Int32)), (0, .ref (ga X 25))]) hx hb ddX5_most_169 rfl hl (by decide) rfl (fun ls hl => ?_)
    refine lv_iconst (v := (0 : Int32)) hx hb ddX5_most_170 (by decide) ?_
    refine lv_istore_n (lv' := [(3, .int (0 : Int32)), (2, .int (0 : Int32)), (0, .ref (ga X 25))]) hx hb ddX5_most_171 rfl hl (by decide) rfl (fun ls hl => ?_)
    obtain ⟨n, h⟩ := h
    exact hL172 n _ _ _ _ _ _ hS (lv_sub hl [2, 1, 0] rfl) h
  have hL52 : ∀ (n : Nat) (x1 x2 : Int32) (σ : Mem) (H : Heap) (locs : List Loc) (ls : Array Slot), WS X A s.heap σ H locs → lv_has ls 6 [(0, .ref (ga X 25)), (1, .int x1), (2, .int x2)] → wlp (wpF_X5_most_52 K) n (x1, x2, σ) → WI X K p l e ({ frames := 4, cells := 0, slots := 0, locals := 88 } : Room) s m args below meth c A H locs (F0 m 52 ls []) := by
    intro n52
    induction n52 with
    | zero => intro x1 x2 σ H locs ls hS hl h; exact h.elim
    | succ n52 ih52 =>
      have hJ162 : ∀ (x1 x2 : Int32) (σ : Mem) (H : Heap) (locs : List Loc) (ls : Array Slot), WS X A s.heap σ H locs → lv_has ls 6 [(0, .ref (ga X 25)), (1, .int x1), (2, .int x2)] → wpJ_X5_most_162 K (wlp (wpF_X5_most_52 K) n52) x1 x2 σ → WI X K p l e ({ frames := 4, cells := 0, slots := 0, locals := 88 } : Room) s m args below meth c A H locs (F0 m 162 ls []) := by
        intro x1 x2 σ H locs ls hS hl h
        unfold wpJ_X5_most_162 at h
        obtain ⟨v14, ev14⟩ : ∃ y : Int32, y = x2 + (1 : Int32) := ⟨_, rfl⟩
        replace h := h v14 ev14
        refine lv_iinc (v := v14) (lv' := [(2, .int v14), (0, .ref (ga X 25)), (1, .int x1)]) hx hb ddX5_most_162 hl (k := 2) rfl (by rw [ev14]; rfl) (by decide) rfl (fun ls hl => ?_)
        refine lv_goto (tgt := 52) hx hb ddX5_most_165 (by decide) ?_
        exact ih52 _ _ _ _ _ _ hS (lv_sub hl [1, 2, 0] rfl) h
      have hL65 : ∀ (n : Nat) (x1 x2 x3 : Int32) (σ : Mem) (H : Heap) (locs : List Loc) (ls : Array Slot), WS X A s.heap σ H locs → lv_has ls 6 [(0, .ref (ga X 25)), (1, .int x1), (2, .int x2), (3, .int x3)] → wlp (wpF_X5_most_65 K (wlp (wpF_X5_most_52 K) n52)) n (x1, x2, x3, σ) → WI X K p l e ({ frames := 4, cells := 0, slots := 0, locals := 88 } : Room) s m args below meth c A H locs (F0 m 65 ls []) := by
        intro n65
        induction n65 with
        | zero => intro x1 x2 x3 σ H locs ls hS hl h; exact h.elim
        | succ n65 ih65 =>
          have hJ156 : ∀ (x1 x2 x3 : Int32) (σ : Mem) (H : Heap) (locs : List Loc) (ls : Array Slot), WS X A s.heap σ H locs → lv_has ls 6 [(0, .ref (ga X 25)), (1, .int x1), (2, .int x2), (3, .int x3)] → wpJ_X5_most_156 K (wlp (wpF_X5_most_52 K) n52) (wlp (wpF_X5_most_65 K (wlp (wpF_X5_most_52 K) n52)) n65) x1 x2 x3 σ → WI X K p l e ({ frames := 4, cells := 0, slots := 0, locals := 88 } : Room) s m args below meth c A H locs (F0 m 156 ls []) := by
            intro x1 x2 x3 σ H locs ls hS hl h
            unfold wpJ_X5_most_156 at h
            obtain ⟨v16, ev16⟩ : ∃ y : Int32, y = x3 + (-1 : Int32) := ⟨_, rfl⟩
            replace h := h v16 ev16
            refine lv_iinc (v := v16) (lv' := [(3, .int v16), (0, .ref (ga X 25)), (1, .int x1), (2, .int x2)]) hx hb ddX5_most_156 hl (k := 3) rfl (by rw [ev16]; rfl) (by decide) rfl (fun ls hl => ?_)
            refine lv_goto (tgt := 65) hx hb ddX5_most_159 (by decide) ?_
            exact ih65 _ _ _ _ _ _ _ hS (lv_sub hl [1, 2, 3, 0] rfl) h
          have hL72 : ∀ (n : Nat) (x1 x2 x3 x4 : Int32) (σ : Mem) (H : Heap) (locs : List Loc) (ls : Array Slot), WS X A s.heap σ H locs → lv_has ls 6 [(0, .ref (ga X 25)), (1, .int x1), (2, .int x2), (3, .int x3), (4, .int x4)] → wlp (wpF_X5_most_72 K (wlp (wpF_X5_most_52 K) n52) (wlp (wpF_X5_most_65 K (wlp (wpF_X5_most_52 K) n52)) n65)) n (x1, x2, x3, x4, σ) → WI X K p l e ({ frames := 4, cells := 0, slots := 0, locals := 88 } : Room) s m args below meth c A H locs (F0 m 72 ls []) := by
            intro n72
            induction n72 with
            | zero => intro x1 x2 x3 x4 σ H locs ls hS hl h; exact h.elim
            | succ n72 ih72 =>
              have hJ150 : ∀ (x1 x2 x3 x4 : Int32) (σ : Mem) (H : Heap) (locs : List Loc) (ls : Array Slot), WS X A s.heap σ H locs → lv_has ls 6 [(0, .ref (ga X 25)), (1, .int x1), (2, .int x2), (3, .int x3), (4, .int x4)] → wpJ_X5_most_150 K (wlp (wpF_X5_most_52 K) n52) (wlp (wpF_X5_most_65 K (wlp (wpF_X5_most_52 K) n52)) n65) (wlp (wpF_X5_most_72 K (wlp (wpF_X5_most_52 K) n52) (wlp (wpF_X5_most_65 K (wlp (wpF_X5_most_52 K) n52)) n65)) n72) x1 x2 x3 x4 σ → WI X K p l e ({ frames := 4, cells := 0, slots := 0, locals := 88 } : Room) s m args below meth c A H locs (F0 m 150 ls []) := by
                intro x1 x2 x3 x4 σ H locs ls hS hl h
                unfold wpJ_X5_most_150 at h
                obtain ⟨v19, ev19⟩ : ∃ y : Int32, y = x4 + (1 : Int32) := ⟨_, rfl⟩
                replace h := h v19 ev19
                refine lv_iinc (v := v19) (lv' := [(4, .int v19), (0, .ref (ga X 25)), (1, .int x1), (2, .int x2), (3, .int x3)]) hx hb ddX5_most_150 hl (k := 4) rfl (by rw [ev19]; rfl) (by decide) rfl (fun ls hl => ?_)
                refine lv_goto (tgt := 72) hx hb ddX5_most_153 (by decide) ?_
                exact ih72 _ _ _ _ _ _ _ _ hS (lv_sub hl [1, 2, 3, 4, 0] rfl) h
              intro x1 x2 x3 x4 σ H locs ls hS hl h
              replace h : wpS_X5_most_72 K (wlp (wpF_X5_most_52 K) n52) (wlp (wpF_X5_most_65 K (wlp (wpF_X5_most_52 K) n52)) n65) (wlp (wpF_X5_most_72 K (wlp (wpF_X5_most_52 K) n52) (wlp (wpF_X5_most_65 K (wlp (wpF_X5_most_52 K) n52)) n65)) n72) x1 x2 x3 x4 σ := h
              unfold wpS_X5_most_72 at h
              refine lv_iload hx hb ddX5_most_72 (lv_at hl 4 rfl) ?_
              refine lv_aload_n hx hb ddX5_most_74 rfl (lv_at hl 0 rfl) ?_
              refine get_25_0 hx hb hown ht hK hS lk1124 ddX5_most_75 ?_
              refine lv_iconst (v := (0 : Int32)) hx hb ddX5_most_78 (by decide) ?_
              refine aldk_26 hx hb hK hS 0 (by unfold vp_in; decide) rfl ddX5_most_79 ?_
              refine lv_icmp_ge (tgt := 156) hx hb ddX5_most_80 (by decide) (fun c15 => ?_) (fun c15 => ?_)
              · replace h := h.1 c15
                exact hJ156 _ _ _ _ _ _ _ hS (lv_sub hl [0, 1, 2, 3] rfl) h
              · replace h := h.2 c15
                refine lv_iload_n hx hb ddX5_most_83 rfl (lv_at hl 3 rfl) ?_
                refine lv_iconst (v := (1 : Int32)) hx hb ddX5_most_84 (by decide) ?_
                refine lv_iload hx hb ddX5_most_85 (lv_at hl 4 rfl) ?_
                refine lv_ishl hx hb ddX5_most_87 ?_
                refine lv_ior hx hb ddX5_most_88 ?_
                refine lv_topi (fun v17 ev17 => ?_)
                replace h := h v17 ev17
                refine lv_istore (lv' := [(5, .int v17), (0, .ref (ga X 25)), (1, .int x1), (2, .int x2), (3, .int x3), (4, .int x4)]) hx hb ddX5_most_89 hl (by decide) rfl (fun ls hl => ?_)
                refine lv_iload hx hb ddX5_most_91 (lv_at hl 0 rfl) ?_
                refine lv_iload_n hx hb ddX5_most_93 rfl (lv_at hl 4 rfl) ?_
                refine lv_icmp_eq (tgt := 150) hx hb ddX5_most_94 (by decide) (fun c18 => ?_) (fun c18 => ?_)
                · replace h := h.1 c18
                  exact hJ150 _ _ _ _ _ _ _ _ hS (lv_sub hl [1, 2, 3, 4, 5] rfl) h
                · replace h := h.2 c18
                  refine lv_aload_n hx hb ddX5_most_97 rfl (lv_at hl 1 rfl) ?_
                  refine get_25_17 hx hb hown ht hK hS lk1141 ddX5_most_98 ?_
                  refine lv_iload_n hx hb ddX5_most_101 rfl (lv_at hl 4 rfl) ?_
                  refine ald_32 hx hb hK hS h.1 ddX5_most_102 ?_
                  replace h := h.2
                  refine lv_if_lt (tgt := 150) hx hb ddX5_most_103 (by decide) (fun c20 => ?_) (fun c20 => ?_)
                  · replace h := h.1 c20
                    exact hJ150 _ _ _ _ _ _ _ _ hS (lv_sub hl [1, 2, 3, 4, 5] rfl) h
                  · replace h := h.2 c20
                    refine lv_aload_n hx hb ddX5_most_106 rfl (lv_at hl 1 rfl) ?_
                    refine lv_iload hx hb ddX5_most_107 (lv_at hl 5 rfl) ?_
                    refine lv_iload_n hx hb ddX5_most_109 rfl (lv_at hl 2 rfl) ?_
                    refine lv_iload_n hx hb ddX5_most_110 rfl (lv_at hl 3 rfl) ?_
                    refine k_VI (As := [.int x4, .int x1, .int x2]) (rest := []) (c_X5_refuses l X h) mf_X5_refuses lk1265 hx hb hml hown ht hK hZ hS hA 25 5 rfl rfl rfl ⟨rfl, rfl⟩ ⟨Nat.le_of_ble_eq_true rfl, Nat.le_of_ble_eq_true rfl⟩ rfl hl.1 rfl (Nat.le_of_ble_eq_true rfl) ⟨Nat.le_of_ble_eq_true rfl, Nat.le_of_ble_eq_true rfl⟩ ddX5_most_111 (fun r22 σ21 H locs hS h => ?_)
                    refine lv_if_ne (tgt := 150) hx hb ddX5_most_114 (by decide) (fun c23 => ?_) (fun c23 => ?_)
                    · replace h := h.1 c23
                      exact hJ150 _ _ _ _ _ _ _ _ hS (lv_sub hl [1, 2, 3, 4, 5] rfl) h
                    · replace h := h.2 c23
                      refine lv_aload_n hx hb ddX5_most_117 rfl (lv_at hl 1 rfl) ?_
                      refine get_25_17 hx hb hown ht hK hS lk1141 ddX5_most_118 ?_
                      refine lv_iload_n hx hb ddX5_most_121 rfl (lv_at hl 4 rfl) ?_
                      refine ald_32 hx hb hK hS h.1 ddX5_most_122 ?_
                      replace h := h.2
                      refine lv_iconst (v := (1 : Int32)) hx hb ddX5_most_123 (by decide) ?_
                      refine lv_iadd hx hb ddX5_most_124 ?_
                      refine lv_aload_n hx hb ddX5_most_125 rfl (lv_at hl 1 rfl) ?_
                      refine get_25_17 hx hb hown ht hK hS lk1141 ddX5_most_126 ?_
                      refine lv_iload hx hb ddX5_most_129 (lv_at hl 0 rfl) ?_
                      refine ald_32 hx hb hK hS h.1 ddX5_most_131 ?_
                      replace h := h.2
                      refine lv_icmp_le (tgt := 150) hx hb ddX5_most_132 (by decide) (fun c24 => ?_) (fun c24 => ?_)
                      · replace h := h.1 c24
                        exact hJ150 _ _ _ _ _ _ _ _ hS (lv_sub hl [1, 2, 3, 4, 5] rfl) h
                      · replace h := h.2 c24
                        refine lv_aload_n hx hb ddX5_most_135 rfl (lv_at hl 1 rfl) ?_
                        refine get_25_17 hx hb hown ht hK hS lk1141 ddX5_most_136 ?_
                        refine lv_iload hx hb ddX5_most_139 (lv_at hl 0 rfl) ?_
                        refine lv_aload_n hx hb ddX5_most_141 rfl (lv_at hl 1 rfl) ?_
                        refine get_25_17 hx hb hown ht hK hS lk1141 ddX5_most_142 ?_
                        refine lv_iload_n hx hb ddX5_most_145 rfl (lv_at hl 4 rfl) ?_
                        refine ald_32 hx hb hK hS h.1 ddX5_most_146 ?_
                        replace h := h.2
                        refine lv_iconst (v := (1 : Int32)) hx hb ddX5_most_147 (by decide) ?_
                        refine lv_iadd hx hb ddX5_most_148 ?_
                        refine ast_32 hx hb hK hS h.1 ddX5_most_149 (fun H locs hS => ?_)
                        replace h := h.2
                        obtain ⟨σ25, eσ25⟩ : ∃ y : Mem, y = (st σ21 32 v17.toNatClampNeg ((σ21 32 x3.toNatClampNeg) + (1 : Int32))) := ⟨_, rfl⟩
                        rw [← eσ25] at hS
                        replace h := h σ25 eσ25
                        exact hJ150 _ _ _ _ _ _ _ _ hS (lv_sub hl [1, 2, 3, 4, 5] rfl) h
          intro x1 x2 x3 σ H locs ls hS hl h
          replace h : wpS_X5_most_65 K (wlp (wpF_X5_most_52 K) n52) (wlp (wpF_X5_most_65 K (wlp (wpF_X5_most_52 K) n52)) n65) x1 x2 x3 σ := h
          unfold wpS_X5_most_65 at h
          refine lv_iload_n hx hb ddX5_most_65 rfl (lv_at hl 3 rfl) ?_
          refine lv_if_lt (tgt := 162) hx hb ddX5_most_66 (by decide) (fun c13 => ?_) (fun c13 => ?_)
          · replace h := h.1 c13
            exact hJ162 _ _ _ _ _ _ hS (lv_sub hl [0, 1, 2] rfl) h
          · replace h := h.2 c13
            refine lv_iconst (v := (0 : Int32)) hx hb ddX5_most_69 (by decide) ?_
            refine lv_istore (lv' := [(4, .int (0 : Int32)), (0, .ref (ga X 25)), (1, .int x1), (2, .int x2), (3, .int x3)]) hx hb ddX5_most_70 hl (by decide) rfl (fun ls hl => ?_)
            obtain ⟨n, h⟩ := h
            exact hL72 n _ _ _ _ _ _ _ _ hS (lv_sub hl [1, 2, 3, 4, 0] rfl) h
      intro x1 x2 σ H locs ls hS hl h
      replace h : wpS_X5_most_52 K (wlp (wpF_X5_most_52 K) n52) x1 x2 σ := h
      unfold wpS_X5_most_52 at h
      refine lv_iload_n hx hb ddX5_most_52 rfl (lv_at hl 2 rfl) ?_
      refine lv_aload_n hx hb ddX5_most_53 rfl (lv_at hl 0 rfl) ?_
      refine get_25_0 hx hb hown ht hK hS lk1124 ddX5_most_54 ?_
      refine lv_iconst (v := (1 : Int32)) hx hb ddX5_most_57 (by decide) ?_
      refine aldk_26 hx hb hK hS 1 (by unfold vp_in; decide) rfl ddX5_most_58 ?_
      refine lv_icmp_ge (tgt := 168) hx hb ddX5_most_59 (by decide) (fun c8 => ?_) (fun c8 => ?_)
      · replace h := h.1 c8
        exact hJ168  _ _ _ _ hS (lv_sub hl [0] rfl) h
      · replace h := h.2 c8
        refine lv_bipush (v := (31 : Int32)) hx hb ddX5_most_62 (by decide) ?_
        refine lv_istore_n (lv' := [(3, .int (31 : Int32)), (0, .ref (ga X 25)), (1, .int x1), (2, .int x2)]) hx hb ddX5_most_64 rfl hl (by decide) rfl (fun ls hl => ?_)
        obtain ⟨n, h⟩ := h
        exact hL65 n _ _ _ _ _ _ _ hS (lv_sub hl [1, 2, 3, 0] rfl) h
  have hJ50 : ∀ (x1 : Int32) (σ : Mem) (H : Heap) (locs : List Loc) (ls : Array Slot), WS X A s.heap σ H locs → lv_has ls 6 [(0, .ref (ga X 25)), (1, .int x1)] → wpJ_X5_most_50 K x1 σ → WI X K p l e ({ frames := 4, cells := 0, slots := 0, locals := 88 } : Room) s m args below meth c A H locs (F0 m 50 ls []) := by
    intro x1 σ H locs ls hS hl h
    unfold wpJ_X5_most_50 at h
    refine lv_iconst (v := (0 : Int32)) hx hb ddX5_most_50 (by decide) ?_
    refine lv_istore_n (lv' := [(2, .int (0 : Int32)), (0, .ref (ga X 25)), (1, .int x1)]) hx hb ddX5_most_51 rfl hl (by decide) rfl (fun ls hl => ?_)
    obtain ⟨n, h⟩ := h
    exact hL52 n _ _ _ _ _ _ hS (lv_sub hl [1, 2, 0] rfl) h
  have hL23 : ∀ (n : Nat) (x1 x2 : Int32) (σ : Mem) (H : Heap) (locs : List Loc) (ls : Array Slot), WS X A s.heap σ H locs → lv_has ls 6 [(0, .ref (ga X 25)), (1, .int x1), (2, .int x2)] → wlp (wpF_X5_most_23 K) n (x1, x2, σ) → WI X K p l e ({ frames := 4, cells := 0, slots := 0, locals := 88 } : Room) s m args below meth c A H locs (F0 m 23 ls []) := by
    intro n23
    induction n23 with
    | zero => intro x1 x2 σ H locs ls hS hl h; exact h.elim
    | succ n23 ih23 =>
      have hJ43 : ∀ (x1 x2 y1 y2 : Int32) (σ : Mem) (H : Heap) (locs : List Loc) (ls : Array Slot), WS X A s.heap σ H locs → lv_has ls 6 [(0, .ref (ga X 25)), (1, .int x1), (2, .int x2)] → wpJ_X5_most_43 K (wlp (wpF_X5_most_23 K) n23) x1 x2 y1 y2 σ → WI X K p l e ({ frames := 4, cells := 0, slots := 0, locals := 88 } : Room) s m args below meth c A H locs (F0 m 43 ls [.int y2, .int y1, .ref (ga X 32)]) := by
        intro x1 x2 y1 y2 σ H locs ls hS hl h
        unfold wpJ_X5_most_43 at h
        refine ast_32 hx hb hK hS h.1 ddX5_most_43 (fun H locs hS => ?_)
        replace h := h.2
        obtain ⟨σ27, eσ27⟩ : ∃ y : Mem, y = (st σ 32 y1.toNatClampNeg y2) := ⟨_, rfl⟩
        rw [← eσ27] at hS
        replace h := h σ27 eσ27
        obtain ⟨v28, ev28⟩ : ∃ y : Int32, y = x2 + (1 : Int32) := ⟨_, rfl⟩
        replace h := h v28 ev28
        refine lv_iinc (v := v28) (lv' := [(2, .int v28), (0, .ref (ga X 25)), (1, .int x1)]) hx hb ddX5_most_44 hl (k := 2) rfl (by rw [ev28]; rfl) (by decide) rfl (fun ls hl => ?_)
        refine lv_goto (tgt := 23) hx hb ddX5_most_47 (by decide) ?_
        exact ih23 _ _ _ _ _ _ hS (lv_sub hl [1, 2, 0] rfl) h
      intro x1 x2 σ H locs ls hS hl h
      replace h : wpS_X5_most_23 K (wlp (wpF_X5_most_23 K) n23) x1 x2 σ := h
      unfold wpS_X5_most_23 at h
      refine lv_iload_n hx hb ddX5_most_23 rfl (lv_at hl 2 rfl) ?_
      refine lv_bipush (v := (32 : Int32)) hx hb ddX5_most_24 (by decide) ?_
      refine lv_icmp_ge (tgt := 50) hx hb ddX5_most_26 (by decide) (fun c7 => ?_) (fun c7 => ?_)
      · replace h := h.1 c7
        exact hJ50 _ _ _ _ _ hS (lv_sub hl [0, 1] rfl) h
      · replace h := h.2 c7
        refine lv_aload_n hx hb ddX5_most_29 rfl (lv_at hl 0 rfl) ?_
        refine get_25_17 hx hb hown ht hK hS lk1141 ddX5_most_30 ?_
        refine lv_iload_n hx hb ddX5_most_33 rfl (lv_at hl 2 rfl) ?_
        refine lv_iload_n hx hb ddX5_most_34 rfl (lv_at hl 2 rfl) ?_
        refine lv_if_ne (tgt := 42) hx hb ddX5_most_35 (by decide) (fun c26 => ?_) (fun c26 => ?_)
        · replace h := h.1 c26
          refine lv_iconst (v := (-1 : Int32)) hx hb ddX5_most_42 (by decide) ?_
          exact hJ43 _ _ _ _ _ _ _ _ hS (lv_sub hl [0, 1, 2] rfl) h
        · replace h := h.2 c26
          refine lv_iconst (v := (0 : Int32)) hx hb ddX5_most_38 (by decide) ?_
          refine lv_goto (tgt := 43) hx hb ddX5_most_39 (by decide) ?_
          exact hJ43 _ _ _ _ _ _ _ _ hS (lv_sub hl [0, 1, 2] rfl) h
  have hJ13 : ∀ (x1 y1 : Int32) (σ : Mem) (H : Heap) (locs : List Loc) (ls : Array Slot), WS X A s.heap σ H locs → lv_has ls 6 [(0, .ref (ga X 25)), (1, .int x1)] → wpJ_X5_most_13 K x1 y1 σ → WI X K p l e ({ frames := 4, cells := 0, slots := 0, locals := 88 } : Room) s m args below meth c A H locs (F0 m 13 ls [.int y1, .ref (ga X 25)]) := by
    intro x1 y1 σ H locs ls hS hl h
    unfold wpJ_X5_most_13 at h
    refine k_VI (As := [.int y1]) (rest := []) (c_X5_fails l X h) mf_X5_fails lk1199 hx hb hml hown ht hK hZ hS hA 25 5 rfl rfl rfl ⟨rfl, rfl⟩ ⟨Nat.le_of_ble_eq_true rfl, Nat.le_of_ble_eq_true rfl⟩ rfl hl.1 rfl (Nat.le_of_ble_eq_true rfl) ⟨Nat.le_of_ble_eq_true rfl, Nat.le_of_ble_eq_true rfl⟩ ddX5_most_13 (fun r5 σ4 H locs hS h => ?_)
    refine lv_if_eq (tgt := 21) hx hb ddX5_most_16 (by decide) (fun c6 => ?_) (fun c6 => ?_)
    · replace h := h.1 c6
      refine lv_iconst (v := (0 : Int32)) hx hb ddX5_most_21 (by decide) ?_
      refine lv_istore_n (lv' := [(2, .int (0 : Int32)), (0, .ref (ga X 25)), (1, .int x1)]) hx hb ddX5_most_22 rfl hl (by decide) rfl (fun ls hl => ?_)
      obtain ⟨n, h⟩ := h
      exact hL23 n _ _ _ _ _ _ hS (lv_sub hl [1, 2, 0] rfl) h
    · replace h := h.2 c6
      refine lv_iconst (v := (0 : Int32)) hx hb ddX5_most_19 (by decide) ?_
      exact k_iret hx hb hr hlocks hK hS h ddX5_most_20
  unfold wp_X5_most at h
  refine lv_aload_n hx hb ddX5_most_0 rfl (lv_at hl 0 rfl) ?_
  refine lv_iload_n hx hb ddX5_most_1 rfl (lv_at hl 1 rfl) ?_
  refine k_SI (As := [.int x1]) (rest := [.ref (ga X 25)]) (c_X5_isSlot l X h) mf_X5_isSlot lk1258 hx hb hml hown ht hK hZ hS hA ⟨rfl, rfl⟩ ⟨Nat.le_of_ble_eq_true rfl, Nat.le_of_ble_eq_true rfl⟩ rfl hl.1 rfl (Nat.le_of_ble_eq_true rfl) ⟨Nat.le_of_ble_eq_true rfl, Nat.le_of_ble_eq_true rfl⟩ ddX5_most_2 (fun r2 σ1 H locs hS h => ?_)
  refine lv_if_eq (tgt := 12) hx hb ddX5_most_5 (by decide) (fun c3 => ?_) (fun c3 => ?_)
  · replace h := h.1 c3
    refine lv_iconst (v := (1 : Int32)) hx hb ddX5_most_12 (by decide) ?_
    exact hJ13 _ _ _ _ _ _ hS (lv_sub hl [0, 1] rfl) h
  · replace h := h.2 c3
    refine lv_iconst (v := (0 : Int32)) hx hb ddX5_most_8 (by decide) ?_
    refine lv_goto (tgt := 13) hx hb ddX5_most_9 (by decide) ?_
    exact hJ13 _ _ _ _ _ _ hS (lv_sub hl [0, 1] rfl) h

set_option maxHeartbeats 4000000 in
set_option maxRecDepth 100000 in
theorem c_X5_mostDuties (l : Launch) (X : GX) {x1 : Int32} {σ : Mem} {K : Int32 → Mem → Prop} (h : wp_X5_mostDuties x1 σ K) : MI l X yX5_mostDuties cX5_mostDuties 2 ((Option.some Jvm.ClassFile.FieldType.int)) ({ frames := 5, cells := 0, slots := 0, locals := 113 } : Room) [.ref (ga X 25), .int x1] σ K := by
  refine ent_met (QQ := fun A => va_Qi K (BW X A) A) (by decide) (Nat.le_of_ble_eq_true rfl) ?_
  intro p e s m args below meth c A ls hx hb hr hlocks hml hown ht hK hZ hA hS hl
  have hown : s.vm.findClass "GuardRosterModel" = some m.cls := hown
  have hl : lv_has ls 2 [(0, .ref (ga X 25)), (1, .int x1)] := hl
  unfold wp_X5_mostDuties at h
  refine lv_aload_n hx hb ddX5_mostDuties_0 rfl (lv_at hl 0 rfl) ?_
  refine lv_iload_n hx hb ddX5_mostDuties_1 rfl (lv_at hl 1 rfl) ?_
  refine k_VI (As := [.int x1]) (rest := []) (c_X5_most l X h) mf_X5_most lk1361 hx hb hml hown ht hK hZ hS hA 25 5 rfl rfl rfl ⟨rfl, rfl⟩ ⟨Nat.le_of_ble_eq_true rfl, Nat.le_of_ble_eq_true rfl⟩ rfl hl.1 rfl (Nat.le_of_ble_eq_true rfl) ⟨Nat.le_of_ble_eq_true rfl, Nat.le_of_ble_eq_true rfl⟩ ddX5_mostDuties_2 (fun r2 σ1 H locs hS h => ?_)
  exact k_iret hx hb hr hlocks hK hS h ddX5_mostDuties_5

set_option maxHeartbeats 4000000 in
set_option maxRecDepth 100000 in
theorem c_X5_mostDutiesBySets (l : Launch) (X : GX) {x1 : Int32} {σ : Mem} {K : Int32 → Mem → Prop} (h : wp_X5_mostDutiesBySets x1 σ K) : MI l X yX5_mostDutiesBySets cX5_mostDutiesBySets 2 ((Option.some Jvm.ClassFile.FieldType.int)) ({ frames := 5, cells := 0, slots := 0, locals := 113 } : Room) [.ref (ga X 25), .int x1] σ K := by
  refine ent_met (QQ := fun A => va_Qi K (BW X A) A) (by decide) (Nat.le_of_ble_eq_true rfl) ?_
  intro p e s m args below meth c A ls hx hb hr hlocks hml hown ht hK hZ hA hS hl
  have hown : s.vm.findClass "GuardRosterModel" = some m.cls := hown
  have hl : lv_has ls 2 [(0, .ref (ga X 25)), (1, .int x1)] := hl
  unfold wp_X5_mostDutiesBySets at h
  refine lv_aload_n hx hb ddX5_mostDutiesBySets_0 rfl (lv_at hl 0 rfl) ?_
  refine lv_iload_n hx hb ddX5_mostDutiesBySets_1 rfl (lv_at hl 1 rfl) ?_
  refine k_VI (As := [.int x1]) (rest := []) (c_X5_most l X h) mf_X5_most lk1361 hx hb hml hown ht hK hZ hS hA 25 5 rfl rfl rfl ⟨rfl, rfl⟩ ⟨Nat.le_of_ble_eq_true rfl, Nat.le_of_ble_eq_true rfl⟩ rfl hl.1 rfl (Nat.le_of_ble_eq_true rfl) ⟨Nat.le_of_ble_eq_true rfl, Nat.le_of_ble_eq_true rfl⟩ ddX5_mostDutiesBySets_2 (fun r2 σ1 H locs hS h => ?_)
  exact k_iret hx hb hr hlocks hK hS h ddX5_mostDutiesBySets_5

set_option maxHeartbeats 4000000 in
set_option maxRecDepth 100000 in
theorem c_X5_following (l : Launch) (X : GX) {x1 : Int32} {σ : Mem} {K : Int32 → Mem → Prop} (h : wp_X5_following x1 σ K) : MI l X yX5_following cX5_following 3 ((Option.some Jvm.ClassFile.FieldType.int)) ({ frames := 3, cells := 0, slots := 0, locals := 65 } : Room) [.ref (ga X 25), .int x1] σ K := by
  refine ent_met (QQ := fun A => va_Qi K (BW X A) A) (by decide) (Nat.le_of_ble_eq_true rfl) ?_
  intro p e s m args below meth c A ls hx hb hr hlocks hml hown ht hK hZ hA hS hl
  have hown : s.vm.findClass "GuardRosterModel" = some m.cls := hown
  have hl : lv_has ls 3 [(0, .ref (ga X 25)), (1, .int x1)] := hl
  have hL7 : ∀ (n : Nat) (x1 x2 : Int32) (σ : Mem) (H : Heap) (locs : List Loc) (ls : Array Slot), WS X A s.heap σ H locs → lv_has ls 3 [(0, .ref (ga X 25)), (1, .int x1), (2, .int x2)] → wlp (wpF_X5_following_7 K) n (x1, x2, σ) → WI X K p l e ({ frames := 3, cells := 0, slots := 0, locals := 65 } : Room) s m args below meth c A H locs (F0 m 7 ls []) := by
    intro n7
    induction n7 with
    | zero => intro x1 x2 σ H locs ls hS hl h; exact h.elim
    | succ n7 ih7 =>
      intro x1 x2 σ H locs ls hS hl h
      replace h : wpS_X5_following_7 K (wlp (wpF_X5_following_7 K) n7) x1 x2 σ := h
      unfold wpS_X5_following_7 at h
      refine lv_iload_n hx hb ddX5_following_7 rfl (lv_at hl 2 rfl) ?_
      refine lv_bipush (v := (28 : Int32)) hx hb ddX5_following_8 (by decide) ?_
      refine lv_icmp_ge (tgt := 30) hx hb ddX5_following_10 (by decide) (fun c2 => ?_) (fun c2 => ?_)
      · replace h := h.1 c2
        refine lv_iconst (v := (-1 : Int32)) hx hb ddX5_following_30 (by decide) ?_
        exact k_iret hx hb hr hlocks hK hS h ddX5_following_31
      · replace h := h.2 c2
        refine lv_aload_n hx hb ddX5_following_13 rfl (lv_at hl 0 rfl) ?_
        refine lv_iload_n hx hb ddX5_following_14 rfl (lv_at hl 1 rfl) ?_
        refine lv_iload_n hx hb ddX5_following_15 rfl (lv_at hl 2 rfl) ?_
        refine k_VI (As := [.int x1, .int x2]) (rest := []) (c_X5_where l X h) mf_X5_where lk1277 hx hb hml hown ht hK hZ hS hA 25 5 rfl rfl rfl ⟨rfl, rfl⟩ ⟨Nat.le_of_ble_eq_true rfl, Nat.le_of_ble_eq_true rfl⟩ rfl hl.1 rfl (Nat.le_of_ble_eq_true rfl) ⟨Nat.le_of_ble_eq_true rfl, Nat.le_of_ble_eq_true rfl⟩ ddX5_following_16 (fun r4 σ3 H locs hS h => ?_)
        refine lv_if_lt (tgt := 24) hx hb ddX5_following_19 (by decide) (fun c5 => ?_) (fun c5 => ?_)
        · replace h := h.1 c5
          obtain ⟨v6, ev6⟩ : ∃ y : Int32, y = x2 + (1 : Int32) := ⟨_, rfl⟩
          replace h := h v6 ev6
          refine lv_iinc (v := v6) (lv' := [(2, .int v6), (0, .ref (ga X 25)), (1, .int x1)]) hx hb ddX5_following_24 hl (k := 2) rfl (by rw [ev6]; rfl) (by decide) rfl (fun ls hl => ?_)
          refine lv_goto (tgt := 7) hx hb ddX5_following_27 (by decide) ?_
          exact ih7 _ _ _ _ _ _ hS (lv_sub hl [1, 2, 0] rfl) h
        · replace h := h.2 c5
          refine lv_iload_n hx hb ddX5_following_22 rfl (lv_at hl 2 rfl) ?_
          exact k_iret hx hb hr hlocks hK hS h ddX5_following_23
  unfold wp_X5_following at h
  refine lv_aload_n hx hb ddX5_following_0 rfl (lv_at hl 0 rfl) ?_
  refine get_25_0 hx hb hown ht hK hS lk1124 ddX5_following_1 ?_
  refine lv_iconst (v := (2 : Int32)) hx hb ddX5_following_4 (by decide) ?_
  refine aldk_26 hx hb hK hS 2 (by unfold vp_in; decide) rfl ddX5_following_5 ?_
  refine lv_topi (fun v1 ev1 => ?_)
  replace h := h v1 ev1
  refine lv_istore_n (lv' := [(2, .int v1), (0, .ref (ga X 25)), (1, .int x1)]) hx hb ddX5_following_6 rfl hl (by decide) rfl (fun ls hl => ?_)
  obtain ⟨n, h⟩ := h
  exact hL7 n _ _ _ _ _ _ hS (lv_sub hl [1, 2, 0] rfl) h

set_option maxHeartbeats 4000000 in
set_option maxRecDepth 100000 in
theorem c_X5_nextDuty (l : Launch) (X : GX) {x1 : Int32} {σ : Mem} {K : Int32 → Mem → Prop} (h : wp_X5_nextDuty x1 σ K) : MI l X yX5_nextDuty cX5_nextDuty 2 ((Option.some Jvm.ClassFile.FieldType.int)) ({ frames := 4, cells := 0, slots := 0, locals := 87 } : Room) [.ref (ga X 25), .int x1] σ K := by
  refine ent_met (QQ := fun A => va_Qi K (BW X A) A) (by decide) (Nat.le_of_ble_eq_true rfl) ?_
  intro p e s m args below meth c A ls hx hb hr hlocks hml hown ht hK hZ hA hS hl
  have hown : s.vm.findClass "GuardRosterModel" = some m.cls := hown
  have hl : lv_has ls 2 [(0, .ref (ga X 25)), (1, .int x1)] := hl
  have hJ26 : ∀ (x1 y1 : Int32) (σ : Mem) (H : Heap) (locs : List Loc) (ls : Array Slot), WS X A s.heap σ H locs → lv_has ls 2 [(0, .ref (ga X 25)), (1, .int x1)] → wpJ_X5_nextDuty_26 K x1 y1 σ → WI X K p l e ({ frames := 4, cells := 0, slots := 0, locals := 87 } : Room) s m args below meth c A H locs (F0 m 26 ls [.int y1, .ref (ga X 25)]) := by
    intro x1 y1 σ H locs ls hS hl h
    unfold wpJ_X5_nextDuty_26 at h
    refine k_VI (As := [.int y1]) (rest := []) (c_X5_fails l X h) mf_X5_fails lk1199 hx hb hml hown ht hK hZ hS hA 25 5 rfl rfl rfl ⟨rfl, rfl⟩ ⟨Nat.le_of_ble_eq_true rfl, Nat.le_of_ble_eq_true rfl⟩ rfl hl.1 rfl (Nat.le_of_ble_eq_true rfl) ⟨Nat.le_of_ble_eq_true rfl, Nat.le_of_ble_eq_true rfl⟩ ddX5_nextDuty_26 (fun r8 σ7 H locs hS h => ?_)
    refine lv_if_eq (tgt := 36) hx hb ddX5_nextDuty_29 (by decide) (fun c9 => ?_) (fun c9 => ?_)
    · replace h := h.1 c9
      refine lv_aload_n hx hb ddX5_nextDuty_36 rfl (lv_at hl 0 rfl) ?_
      refine lv_iload_n hx hb ddX5_nextDuty_37 rfl (lv_at hl 1 rfl) ?_
      refine k_VI (As := [.int x1]) (rest := []) (c_X5_following l X h) mf_X5_following lk1373 hx hb hml hown ht hK hZ hS hA 25 5 rfl rfl rfl ⟨rfl, rfl⟩ ⟨Nat.le_of_ble_eq_true rfl, Nat.le_of_ble_eq_true rfl⟩ rfl hl.1 rfl (Nat.le_of_ble_eq_true rfl) ⟨Nat.le_of_ble_eq_true rfl, Nat.le_of_ble_eq_true rfl⟩ ddX5_nextDuty_38 (fun r11 σ10 H locs hS h => ?_)
      exact k_iret hx hb hr hlocks hK hS h ddX5_nextDuty_41
    · replace h := h.2 c9
      refine lv_iconst (v := (0 : Int32)) hx hb ddX5_nextDuty_32 (by decide) ?_
      refine lv_goto (tgt := 41) hx hb ddX5_nextDuty_33 (by decide) ?_
      exact k_iret hx hb hr hlocks hK hS h ddX5_nextDuty_41
  unfold wp_X5_nextDuty at h
  refine lv_aload_n hx hb ddX5_nextDuty_0 rfl (lv_at hl 0 rfl) ?_
  refine lv_aload_n hx hb ddX5_nextDuty_1 rfl (lv_at hl 0 rfl) ?_
  refine lv_iload_n hx hb ddX5_nextDuty_2 rfl (lv_at hl 1 rfl) ?_
  refine k_VI (As := [.int x1]) (rest := [.ref (ga X 25)]) (c_X5_isGuard l X h) mf_X5_isGuard lk1238 hx hb hml hown ht hK hZ hS hA 25 5 rfl rfl rfl ⟨rfl, rfl⟩ ⟨Nat.le_of_ble_eq_true rfl, Nat.le_of_ble_eq_true rfl⟩ rfl hl.1 rfl (Nat.le_of_ble_eq_true rfl) ⟨Nat.le_of_ble_eq_true rfl, Nat.le_of_ble_eq_true rfl⟩ ddX5_nextDuty_3 (fun r2 σ1 H locs hS h => ?_)
  refine lv_if_ne (tgt := 13) hx hb ddX5_nextDuty_6 (by decide) (fun c3 => ?_) (fun c3 => ?_)
  · replace h := h.1 c3
    refine lv_aload_n hx hb ddX5_nextDuty_13 rfl (lv_at hl 0 rfl) ?_
    refine lv_iload_n hx hb ddX5_nextDuty_14 rfl (lv_at hl 1 rfl) ?_
    refine k_VI (As := [.int x1]) (rest := [.ref (ga X 25)]) (c_X5_following l X h) mf_X5_following lk1373 hx hb hml hown ht hK hZ hS hA 25 5 rfl rfl rfl ⟨rfl, rfl⟩ ⟨Nat.le_of_ble_eq_true rfl, Nat.le_of_ble_eq_true rfl⟩ rfl hl.1 rfl (Nat.le_of_ble_eq_true rfl) ⟨Nat.le_of_ble_eq_true rfl, Nat.le_of_ble_eq_true rfl⟩ ddX5_nextDuty_15 (fun r5 σ4 H locs hS h => ?_)
    refine lv_if_ge (tgt := 25) hx hb ddX5_nextDuty_18 (by decide) (fun c6 => ?_) (fun c6 => ?_)
    · replace h := h.1 c6
      refine lv_iconst (v := (0 : Int32)) hx hb ddX5_nextDuty_25 (by decide) ?_
      exact hJ26 _ _ _ _ _ _ hS (lv_sub hl [0, 1] rfl) h
    · replace h := h.2 c6
      refine lv_iconst (v := (2 : Int32)) hx hb ddX5_nextDuty_21 (by decide) ?_
      refine lv_goto (tgt := 26) hx hb ddX5_nextDuty_22 (by decide) ?_
      exact hJ26 _ _ _ _ _ _ hS (lv_sub hl [0, 1] rfl) h
  · replace h := h.2 c3
    refine lv_iconst (v := (1 : Int32)) hx hb ddX5_nextDuty_9 (by decide) ?_
    refine lv_goto (tgt := 26) hx hb ddX5_nextDuty_10 (by decide) ?_
    exact hJ26 _ _ _ _ _ _ hS (lv_sub hl [0, 1] rfl) h

set_option maxHeartbeats 4000000 in
set_option maxRecDepth 100000 in
theorem c_X5_longestRest (l : Launch) (X : GX) {x1 : Int32} {σ : Mem} {K : Int32 → Mem → Prop} (h : wp_X5_longestRest x1 σ K) : MI l X yX5_longestRest cX5_longestRest 5 ((Option.some Jvm.ClassFile.FieldType.int)) ({ frames := 3, cells := 0, slots := 0, locals := 65 } : Room) [.ref (ga X 25), .int x1] σ K := by
  refine ent_met (QQ := fun A => va_Qi K (BW X A) A) (by decide) (Nat.le_of_ble_eq_true rfl) ?_
  intro p e s m args below meth c A ls hx hb hr hlocks hml hown ht hK hZ hA hS hl
  have hown : s.vm.findClass "GuardRosterModel" = some m.cls := hown
  have hl : lv_has ls 5 [(0, .ref (ga X 25)), (1, .int x1)] := hl
  have hL17 : ∀ (n : Nat) (x1 x2 x3 x4 : Int32) (σ : Mem) (H : Heap) (locs : List Loc) (ls : Array Slot), WS X A s.heap σ H locs → lv_has ls 5 [(0, .ref (ga X 25)), (1, .int x1), (2, .int x2), (3, .int x3), (4, .int x4)] → wlp (wpF_X5_longestRest_17 K) n (x1, x2, x3, x4, σ) → WI X K p l e ({ frames := 3, cells := 0, slots := 0, locals := 65 } : Room) s m args below meth c A H locs (F0 m 17 ls []) := by
    intro n17
    induction n17 with
    | zero => intro x1 x2 x3 x4 σ H locs ls hS hl h; exact h.elim
    | succ n17 ih17 =>
      have hJ49 : ∀ (x1 x2 x3 x4 : Int32) (σ : Mem) (H : Heap) (locs : List Loc) (ls : Array Slot), WS X A s.heap σ H locs → lv_has ls 5 [(0, .ref (ga X 25)), (1, .int x1), (2, .int x2), (3, .int x3), (4, .int x4)] → wpJ_X5_longestRest_49 K (wlp (wpF_X5_longestRest_17 K) n17) x1 x2 x3 x4 σ → WI X K p l e ({ frames := 3, cells := 0, slots := 0, locals := 65 } : Room) s m args below meth c A H locs (F0 m 49 ls []) := by
        intro x1 x2 x3 x4 σ H locs ls hS hl h
        unfold wpJ_X5_longestRest_49 at h
        obtain ⟨v9, ev9⟩ : ∃ y : Int32, y = x4 + (1 : Int32) := ⟨_, rfl⟩
        replace h := h v9 ev9
        refine lv_iinc (v := v9) (lv' := [(4, .int v9), (0, .ref (ga X 25)), (1, .int x1), (2, .int x2), (3, .int x3)]) hx hb ddX5_longestRest_49 hl (k := 4) rfl (by rw [ev9]; rfl) (by decide) rfl (fun ls hl => ?_)
        refine lv_goto (tgt := 17) hx hb ddX5_longestRest_52 (by decide) ?_
        exact ih17 _ _ _ _ _ _ _ _ hS (lv_sub hl [1, 2, 3, 4, 0] rfl) h
      have hJ41 : ∀ (x1 x2 x4 y0 : Int32) (σ : Mem) (H : Heap) (locs : List Loc) (ls : Array Slot), WS X A s.heap σ H locs → lv_has ls 5 [(0, .ref (ga X 25)), (1, .int x1), (2, .int x2), (4, .int x4)] → wpJ_X5_longestRest_41 K (wlp (wpF_X5_longestRest_17 K) n17) x1 x2 x4 y0 σ → WI X K p l e ({ frames := 3, cells := 0, slots := 0, locals := 65 } : Room) s m args below meth c A H locs (F0 m 41 ls [.int y0]) := by
        intro x1 x2 x4 y0 σ H locs ls hS hl h
        unfold wpJ_X5_longestRest_41 at h
        refine lv_istore_n (lv' := [(3, .int y0), (0, .ref (ga X 25)), (1, .int x1), (2, .int x2), (4, .int x4)]) hx hb ddX5_longestRest_41 rfl hl (by decide) rfl (fun ls hl => ?_)
        refine lv_iload_n hx hb ddX5_longestRest_42 rfl (lv_at hl 0 rfl) ?_
        refine lv_iload_n hx hb ddX5_longestRest_43 rfl (lv_at hl 3 rfl) ?_
        refine lv_icmp_le (tgt := 49) hx hb ddX5_longestRest_44 (by decide) (fun c8 => ?_) (fun c8 => ?_)
        · replace h := h.1 c8
          exact hJ49 _ _ _ _ _ _ _ _ hS (lv_sub hl [1, 2, 3, 0, 4] rfl) h
        · replace h := h.2 c8
          refine lv_iload_n hx hb ddX5_longestRest_47 rfl (lv_at hl 0 rfl) ?_
          refine lv_istore_n (lv' := [(2, .int y0), (3, .int y0), (0, .ref (ga X 25)), (1, .int x1), (4, .int x4)]) hx hb ddX5_longestRest_48 rfl hl (by decide) rfl (fun ls hl => ?_)
          exact hJ49 _ _ _ _ _ _ _ _ hS (lv_sub hl [2, 3, 0, 1, 4] rfl) h
      intro x1 x2 x3 x4 σ H locs ls hS hl h
      replace h : wpS_X5_longestRest_17 K (wlp (wpF_X5_longestRest_17 K) n17) x1 x2 x3 x4 σ := h
      unfold wpS_X5_longestRest_17 at h
      refine lv_iload hx hb ddX5_longestRest_17 (lv_at hl 4 rfl) ?_
      refine lv_bipush (v := (28 : Int32)) hx hb ddX5_longestRest_19 (by decide) ?_
      refine lv_icmp_ge (tgt := 55) hx hb ddX5_longestRest_21 (by decide) (fun c4 => ?_) (fun c4 => ?_)
      · replace h := h.1 c4
        refine lv_iload_n hx hb ddX5_longestRest_55 rfl (lv_at hl 2 rfl) ?_
        exact k_iret hx hb hr hlocks hK hS h ddX5_longestRest_56
      · replace h := h.2 c4
        refine lv_aload_n hx hb ddX5_longestRest_24 rfl (lv_at hl 0 rfl) ?_
        refine lv_iload_n hx hb ddX5_longestRest_25 rfl (lv_at hl 1 rfl) ?_
        refine lv_iload hx hb ddX5_longestRest_26 (lv_at hl 4 rfl) ?_
        refine k_VI (As := [.int x1, .int x4]) (rest := []) (c_X5_where l X h) mf_X5_where lk1277 hx hb hml hown ht hK hZ hS hA 25 5 rfl rfl rfl ⟨rfl, rfl⟩ ⟨Nat.le_of_ble_eq_true rfl, Nat.le_of_ble_eq_true rfl⟩ rfl hl.1 rfl (Nat.le_of_ble_eq_true rfl) ⟨Nat.le_of_ble_eq_true rfl, Nat.le_of_ble_eq_true rfl⟩ ddX5_longestRest_28 (fun r6 σ5 H locs hS h => ?_)
        refine lv_if_ge (tgt := 40) hx hb ddX5_longestRest_31 (by decide) (fun c7 => ?_) (fun c7 => ?_)
        · replace h := h.1 c7
          refine lv_iconst (v := (0 : Int32)) hx hb ddX5_longestRest_40 (by decide) ?_
          exact hJ41 _ _ _ _ _ _ _ _ hS (lv_sub hl [0, 1, 2, 4] rfl) h
        · replace h := h.2 c7
          refine lv_iload_n hx hb ddX5_longestRest_34 rfl (lv_at hl 3 rfl) ?_
          refine lv_iconst (v := (1 : Int32)) hx hb ddX5_longestRest_35 (by decide) ?_
          refine lv_iadd hx hb ddX5_longestRest_36 ?_
          refine lv_goto (tgt := 41) hx hb ddX5_longestRest_37 (by decide) ?_
          exact hJ41 _ _ _ _ _ _ _ _ hS (lv_sub hl [0, 1, 2, 4] rfl) h
  unfold wp_X5_longestRest at h
  refine lv_aload_n hx hb ddX5_longestRest_0 rfl (lv_at hl 0 rfl) ?_
  refine lv_iload_n hx hb ddX5_longestRest_1 rfl (lv_at hl 1 rfl) ?_
  refine k_VI (As := [.int x1]) (rest := []) (c_X5_isNone l X h) mf_X5_isNone lk1234 hx hb hml hown ht hK hZ hS hA 25 5 rfl rfl rfl ⟨rfl, rfl⟩ ⟨Nat.le_of_ble_eq_true rfl, Nat.le_of_ble_eq_true rfl⟩ rfl hl.1 rfl (Nat.le_of_ble_eq_true rfl) ⟨Nat.le_of_ble_eq_true rfl, Nat.le_of_ble_eq_true rfl⟩ ddX5_longestRest_2 (fun r2 σ1 H locs hS h => ?_)
  refine lv_if_eq (tgt := 10) hx hb ddX5_longestRest_5 (by decide) (fun c3 => ?_) (fun c3 => ?_)
  · replace h := h.1 c3
    refine lv_iconst (v := (0 : Int32)) hx hb ddX5_longestRest_10 (by decide) ?_
    refine lv_istore_n (lv' := [(2, .int (0 : Int32)), (0, .ref (ga X 25)), (1, .int x1)]) hx hb ddX5_longestRest_11 rfl hl (by decide) rfl (fun ls hl => ?_)
    refine lv_iconst (v := (0 : Int32)) hx hb ddX5_longestRest_12 (by decide) ?_
    refine lv_istore_n (lv' := [(3, .int (0 : Int32)), (2, .int (0 : Int32)), (0, .ref (ga X 25)), (1, .int x1)]) hx hb ddX5_longestRest_13 rfl hl (by decide) rfl (fun ls hl => ?_)
    refine lv_iconst (v := (0 : Int32)) hx hb ddX5_longestRest_14 (by decide) ?_
    refine lv_istore (lv' := [(4, .int (0 : Int32)), (3, .int (0 : Int32)), (2, .int (0 : Int32)), (0, .ref (ga X 25)), (1, .int x1)]) hx hb ddX5_longestRest_15 hl (by decide) rfl (fun ls hl => ?_)
    obtain ⟨n, h⟩ := h
    exact hL17 n _ _ _ _ _ _ _ _ hS (lv_sub hl [3, 4, 2, 1, 0] rfl) h
  · replace h := h.2 c3
    refine lv_iconst (v := (0 : Int32)) hx hb ddX5_longestRest_8 (by decide) ?_
    exact k_iret hx hb hr hlocks hK hS h ddX5_longestRest_9

set_option maxHeartbeats 4000000 in
set_option maxRecDepth 100000 in
theorem c_X5_guardByDuties (l : Launch) (X : GX) {x1 : Int32} {σ : Mem} {K : Int32 → Mem → Prop} (h : wp_X5_guardByDuties x1 σ K) : MI l X yX5_guardByDuties cX5_guardByDuties 5 ((Option.some Jvm.ClassFile.FieldType.int)) ({ frames := 2, cells := 0, slots := 0, locals := 46 } : Room) [.ref (ga X 25), .int x1] σ K := by
  refine ent_met (QQ := fun A => va_Qi K (BW X A) A) (by decide) (Nat.le_of_ble_eq_true rfl) ?_
  intro p e s m args below meth c A ls hx hb hr hlocks hml hown ht hK hZ hA hS hl
  have hown : s.vm.findClass "GuardRosterModel" = some m.cls := hown
  have hl : lv_has ls 5 [(0, .ref (ga X 25)), (1, .int x1)] := hl
  have hJ73 : ∀ (σ : Mem) (H : Heap) (locs : List Loc) (ls : Array Slot), WS X A s.heap σ H locs → lv_has ls 5 [(0, .ref (ga X 25))] → wpJ_X5_guardByDuties_73 K σ → WI X K p l e ({ frames := 2, cells := 0, slots := 0, locals := 46 } : Room) s m args below meth c A H locs (F0 m 73 ls []) := by
    intro  σ H locs ls hS hl h
    unfold wpJ_X5_guardByDuties_73 at h
    refine lv_aload_n hx hb ddX5_guardByDuties_73 rfl (lv_at hl 0 rfl) ?_
    refine lv_iconst (v := (1 : Int32)) hx hb ddX5_guardByDuties_74 (by decide) ?_
    refine put_25_7 hx hb hown ht hK hS lk1131 ddX5_guardByDuties_75 (fun H locs hS => ?_)
    obtain ⟨σ2, eσ2⟩ : ∃ y : Mem, y = (st σ 25 7 (1 : Int32)) := ⟨_, rfl⟩
    rw [← eσ2] at hS
    replace h := h σ2 eσ2
    refine lv_iconst (v := (0 : Int32)) hx hb ddX5_guardByDuties_78 (by decide) ?_
    exact k_iret hx hb hr hlocks hK hS h ddX5_guardByDuties_79
  have hJ60 : ∀ (x2 : Int32) (σ : Mem) (H : Heap) (locs : List Loc) (ls : Array Slot), WS X A s.heap σ H locs → lv_has ls 5 [(0, .ref (ga X 25)), (2, .int x2)] → wpJ_X5_guardByDuties_60 K x2 σ → WI X K p l e ({ frames := 2, cells := 0, slots := 0, locals := 46 } : Room) s m args below meth c A H locs (F0 m 60 ls []) := by
    intro x2 σ H locs ls hS hl h
    unfold wpJ_X5_guardByDuties_60 at h
    refine lv_aload_n hx hb ddX5_guardByDuties_60 rfl (lv_at hl 0 rfl) ?_
    refine lv_iconst (v := (0 : Int32)) hx hb ddX5_guardByDuties_61 (by decide) ?_
    refine put_25_7 hx hb hown ht hK hS lk1131 ddX5_guardByDuties_62 (fun H locs hS => ?_)
    obtain ⟨σ5, eσ5⟩ : ∃ y : Mem, y = (st σ 25 7 (0 : Int32)) := ⟨_, rfl⟩
    rw [← eσ5] at hS
    replace h := h σ5 eσ5
    refine lv_iload_n hx hb ddX5_guardByDuties_65 rfl (lv_at hl 1 rfl) ?_
    exact k_iret hx hb hr hlocks hK hS h ddX5_guardByDuties_66
  have hL2 : ∀ (n : Nat) (x1 x2 : Int32) (σ : Mem) (H : Heap) (locs : List Loc) (ls : Array Slot), WS X A s.heap σ H locs → lv_has ls 5 [(0, .ref (ga X 25)), (1, .int x1), (2, .int x2)] → wlp (wpF_X5_guardByDuties_2 K) n (x1, x2, σ) → WI X K p l e ({ frames := 2, cells := 0, slots := 0, locals := 46 } : Room) s m args below meth c A H locs (F0 m 2 ls []) := by
    intro n2
    induction n2 with
    | zero => intro x1 x2 σ H locs ls hS hl h; exact h.elim
    | succ n2 ih2 =>
      have hJ52 : ∀ (x1 x2 x3 : Int32) (σ : Mem) (H : Heap) (locs : List Loc) (ls : Array Slot), WS X A s.heap σ H locs → lv_has ls 5 [(0, .ref (ga X 25)), (1, .int x1), (2, .int x2), (3, .int x3)] → wpJ_X5_guardByDuties_52 K (wlp (wpF_X5_guardByDuties_2 K) n2) x1 x2 x3 σ → WI X K p l e ({ frames := 2, cells := 0, slots := 0, locals := 46 } : Room) s m args below meth c A H locs (F0 m 52 ls []) := by
        intro x1 x2 x3 σ H locs ls hS hl h
        unfold wpJ_X5_guardByDuties_52 at h
        refine lv_iload_n hx hb ddX5_guardByDuties_52 rfl (lv_at hl 3 rfl) ?_
        refine lv_iload_n hx hb ddX5_guardByDuties_53 rfl (lv_at hl 1 rfl) ?_
        refine lv_icmp_eq (tgt := 60) hx hb ddX5_guardByDuties_54 (by decide) (fun c4 => ?_) (fun c4 => ?_)
        · replace h := h.1 c4
          exact hJ60 _ _ _ _ _ hS (lv_sub hl [0, 2] rfl) h
        · replace h := h.2 c4
          refine lv_goto (tgt := 67) hx hb ddX5_guardByDuties_57 (by decide) ?_
          obtain ⟨v6, ev6⟩ : ∃ y : Int32, y = x2 + (1 : Int32) := ⟨_, rfl⟩
          replace h := h v6 ev6
          refine lv_iinc (v := v6) (lv' := [(2, .int v6), (0, .ref (ga X 25)), (1, .int x1), (3, .int x3)]) hx hb ddX5_guardByDuties_67 hl (k := 2) rfl (by rw [ev6]; rfl) (by decide) rfl (fun ls hl => ?_)
          refine lv_goto (tgt := 2) hx hb ddX5_guardByDuties_70 (by decide) ?_
          exact ih2 _ _ _ _ _ _ hS (lv_sub hl [1, 2, 0] rfl) h
      have hL17 : ∀ (n : Nat) (x1 x2 x3 x4 : Int32) (σ : Mem) (H : Heap) (locs : List Loc) (ls : Array Slot), WS X A s.heap σ H locs → lv_has ls 5 [(0, .ref (ga X 25)), (1, .int x1), (2, .int x2), (3, .int x3), (4, .int x4)] → wlp (wpF_X5_guardByDuties_17 K (wlp (wpF_X5_guardByDuties_2 K) n2)) n (x1, x2, x3, x4, σ) → WI X K p l e ({ frames := 2, cells := 0, slots := 0, locals := 46 } : Room) s m args below meth c A H locs (F0 m 17 ls []) := by
        intro n17
        induction n17 with
        | zero => intro x1 x2 x3 x4 σ H locs ls hS hl h; exact h.elim
        | succ n17 ih17 =>
          have hJ44 : ∀ (x1 x2 x4 y0 y1 : Int32) (σ : Mem) (H : Heap) (locs : List Loc) (ls : Array Slot), WS X A s.heap σ H locs → lv_has ls 5 [(0, .ref (ga X 25)), (1, .int x1), (2, .int x2), (4, .int x4)] → wpJ_X5_guardByDuties_44 K (wlp (wpF_X5_guardByDuties_2 K) n2) (wlp (wpF_X5_guardByDuties_17 K (wlp (wpF_X5_guardByDuties_2 K) n2)) n17) x1 x2 x4 y0 y1 σ → WI X K p l e ({ frames := 2, cells := 0, slots := 0, locals := 46 } : Room) s m args below meth c A H locs (F0 m 44 ls [.int y1, .int y0]) := by
            intro x1 x2 x4 y0 y1 σ H locs ls hS hl h
            unfold wpJ_X5_guardByDuties_44 at h
            refine lv_iadd hx hb ddX5_guardByDuties_44 ?_
            refine lv_topi (fun v10 ev10 => ?_)
            replace h := h v10 ev10
            refine lv_istore_n (lv' := [(3, .int v10), (0, .ref (ga X 25)), (1, .int x1), (2, .int x2), (4, .int x4)]) hx hb ddX5_guardByDuties_45 rfl hl (by decide) rfl (fun ls hl => ?_)
            obtain ⟨v11, ev11⟩ : ∃ y : Int32, y = x4 + (1 : Int32) := ⟨_, rfl⟩
            replace h := h v11 ev11
            refine lv_iinc (v := v11) (lv' := [(4, .int v11), (3, .int v10), (0, .ref (ga X 25)), (1, .int x1), (2, .int x2)]) hx hb ddX5_guardByDuties_46 hl (k := 4) rfl (by rw [ev11]; rfl) (by decide) rfl (fun ls hl => ?_)
            refine lv_goto (tgt := 17) hx hb ddX5_guardByDuties_49 (by decide) ?_
            exact ih17 _ _ _ _ _ _ _ _ hS (lv_sub hl [2, 3, 4, 1, 0] rfl) h
          intro x1 x2 x3 x4 σ H locs ls hS hl h
          replace h : wpS_X5_guardByDuties_17 K (wlp (wpF_X5_guardByDuties_2 K) n2) (wlp (wpF_X5_guardByDuties_17 K (wlp (wpF_X5_guardByDuties_2 K) n2)) n17) x1 x2 x3 x4 σ := h
          unfold wpS_X5_guardByDuties_17 at h
          refine lv_iload hx hb ddX5_guardByDuties_17 (lv_at hl 4 rfl) ?_
          refine lv_aload_n hx hb ddX5_guardByDuties_19 rfl (lv_at hl 0 rfl) ?_
          refine get_25_0 hx hb hown ht hK hS lk1124 ddX5_guardByDuties_20 ?_
          refine lv_iconst (v := (1 : Int32)) hx hb ddX5_guardByDuties_23 (by decide) ?_
          refine aldk_26 hx hb hK hS 1 (by unfold vp_in; decide) rfl ddX5_guardByDuties_24 ?_
          refine lv_icmp_ge (tgt := 52) hx hb ddX5_guardByDuties_25 (by decide) (fun c3 => ?_) (fun c3 => ?_)
          · replace h := h.1 c3
            exact hJ52 _ _ _ _ _ _ _ hS (lv_sub hl [0, 1, 2, 3] rfl) h
          · replace h := h.2 c3
            refine lv_iload_n hx hb ddX5_guardByDuties_28 rfl (lv_at hl 3 rfl) ?_
            refine lv_aload_n hx hb ddX5_guardByDuties_29 rfl (lv_at hl 0 rfl) ?_
            refine lv_iload hx hb ddX5_guardByDuties_30 (lv_at hl 4 rfl) ?_
            refine lv_iload_n hx hb ddX5_guardByDuties_32 rfl (lv_at hl 2 rfl) ?_
            refine k_VI (As := [.int x4, .int x2]) (rest := [.int x3]) (c_X5_isAhead l X h) mf_X5_isAhead lk1313 hx hb hml hown ht hK hZ hS hA 25 5 rfl rfl rfl ⟨rfl, rfl⟩ ⟨Nat.le_of_ble_eq_true rfl, Nat.le_of_ble_eq_true rfl⟩ rfl hl.1 rfl (Nat.le_of_ble_eq_true rfl) ⟨Nat.le_of_ble_eq_true rfl, Nat.le_of_ble_eq_true rfl⟩ ddX5_guardByDuties_33 (fun r8 σ7 H locs hS h => ?_)
            refine lv_if_eq (tgt := 43) hx hb ddX5_guardByDuties_36 (by decide) (fun c9 => ?_) (fun c9 => ?_)
            · replace h := h.1 c9
              refine lv_iconst (v := (0 : Int32)) hx hb ddX5_guardByDuties_43 (by decide) ?_
              exact hJ44 _ _ _ _ _ _ _ _ _ hS (lv_sub hl [0, 1, 2, 4] rfl) h
            · replace h := h.2 c9
              refine lv_iconst (v := (1 : Int32)) hx hb ddX5_guardByDuties_39 (by decide) ?_
              refine lv_goto (tgt := 44) hx hb ddX5_guardByDuties_40 (by decide) ?_
              exact hJ44 _ _ _ _ _ _ _ _ _ hS (lv_sub hl [0, 1, 2, 4] rfl) h
      intro x1 x2 σ H locs ls hS hl h
      replace h : wpS_X5_guardByDuties_2 K (wlp (wpF_X5_guardByDuties_2 K) n2) x1 x2 σ := h
      unfold wpS_X5_guardByDuties_2 at h
      refine lv_iload_n hx hb ddX5_guardByDuties_2 rfl (lv_at hl 2 rfl) ?_
      refine lv_aload_n hx hb ddX5_guardByDuties_3 rfl (lv_at hl 0 rfl) ?_
      refine get_25_0 hx hb hown ht hK hS lk1124 ddX5_guardByDuties_4 ?_
      refine lv_iconst (v := (1 : Int32)) hx hb ddX5_guardByDuties_7 (by decide) ?_
      refine aldk_26 hx hb hK hS 1 (by unfold vp_in; decide) rfl ddX5_guardByDuties_8 ?_
      refine lv_icmp_ge (tgt := 73) hx hb ddX5_guardByDuties_9 (by decide) (fun c1 => ?_) (fun c1 => ?_)
      · replace h := h.1 c1
        exact hJ73  _ _ _ _ hS (lv_sub hl [0] rfl) h
      · replace h := h.2 c1
        refine lv_iconst (v := (0 : Int32)) hx hb ddX5_guardByDuties_12 (by decide) ?_
        refine lv_istore_n (lv' := [(3, .int (0 : Int32)), (0, .ref (ga X 25)), (1, .int x1), (2, .int x2)]) hx hb ddX5_guardByDuties_13 rfl hl (by decide) rfl (fun ls hl => ?_)
        refine lv_iconst (v := (0 : Int32)) hx hb ddX5_guardByDuties_14 (by decide) ?_
        refine lv_istore (lv' := [(4, .int (0 : Int32)), (3, .int (0 : Int32)), (0, .ref (ga X 25)), (1, .int x1), (2, .int x2)]) hx hb ddX5_guardByDuties_15 hl (by decide) rfl (fun ls hl => ?_)
        obtain ⟨n, h⟩ := h
        exact hL17 n _ _ _ _ _ _ _ _ hS (lv_sub hl [2, 3, 4, 1, 0] rfl) h
  unfold wp_X5_guardByDuties at h
  refine lv_iconst (v := (0 : Int32)) hx hb ddX5_guardByDuties_0 (by decide) ?_
  refine lv_istore_n (lv' := [(2, .int (0 : Int32)), (0, .ref (ga X 25)), (1, .int x1)]) hx hb ddX5_guardByDuties_1 rfl hl (by decide) rfl (fun ls hl => ?_)
  obtain ⟨n, h⟩ := h
  exact hL2 n _ _ _ _ _ _ hS (lv_sub hl [1, 2, 0] rfl) h
