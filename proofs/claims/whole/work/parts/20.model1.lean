set_option maxHeartbeats 4000000 in
set_option maxRecDepth 100000 in
theorem c_X5_bits (l : Launch) (X : GX) {x0 : Int32} {σ : Mem} {K : Int32 → Mem → Prop} (h : wp_X5_bits x0 σ K) : MI l X yX5_bits cX5_bits 3 ((Option.some Jvm.ClassFile.FieldType.int)) ({ frames := 0, cells := 0, slots := 0, locals := 0 } : Room) [.int x0] σ K := by
  refine ent_met (QQ := fun A => va_Qi K (BW X A) A) (by decide) (Nat.le_of_ble_eq_true rfl) ?_
  intro p e s m args below meth c A ls hx hb hr hlocks hml hown ht hK hZ hA hS hl
  have hown : s.vm.findClass "GuardRosterModel" = some m.cls := hown
  have hl : lv_has ls 3 [(0, .int x0)] := hl
  have hL4 : ∀ (n : Nat) (x0 x1 x2 : Int32) (σ : Mem) (H : Heap) (locs : List Loc) (ls : Array Slot), WS X A s.heap σ H locs → lv_has ls 3 [(0, .int x0), (1, .int x1), (2, .int x2)] → wlp (wpF_X5_bits_4 K) n (x0, x1, x2, σ) → WI X K p l e ({ frames := 0, cells := 0, slots := 0, locals := 0 } : Room) s m args below meth c A H locs (F0 m 4 ls []) := by
    intro n4
    induction n4 with
    | zero => intro x0 x1 x2 σ H locs ls hS hl h; exact h.elim
    | succ n4 ih4 =>
      intro x0 x1 x2 σ H locs ls hS hl h
      replace h : wpS_X5_bits_4 K (wlp (wpF_X5_bits_4 K) n4) x0 x1 x2 σ := h
      unfold wpS_X5_bits_4 at h
      refine lv_iload_n hx hb ddX5_bits_4 rfl (lv_at hl 2 rfl) ?_
      refine lv_bipush (v := (28 : Int32)) hx hb ddX5_bits_5 (by decide) ?_
      refine lv_icmp_ge (tgt := 24) hx hb ddX5_bits_7 (by decide) (fun c1 => ?_) (fun c1 => ?_)
      · replace h := h.1 c1
        refine lv_iload_n hx hb ddX5_bits_24 rfl (lv_at hl 1 rfl) ?_
        exact k_iret hx hb hr hlocks hK hS h ddX5_bits_25
      · replace h := h.2 c1
        refine lv_iload_n hx hb ddX5_bits_10 rfl (lv_at hl 1 rfl) ?_
        refine lv_iload_n hx hb ddX5_bits_11 rfl (lv_at hl 0 rfl) ?_
        refine lv_iload_n hx hb ddX5_bits_12 rfl (lv_at hl 2 rfl) ?_
        refine lv_ishr hx hb ddX5_bits_13 ?_
        refine lv_iconst (v := (1 : Int32)) hx hb ddX5_bits_14 (by decide) ?_
        refine lv_iand hx hb ddX5_bits_15 ?_
        refine lv_iadd hx hb ddX5_bits_16 ?_
        refine lv_topi (fun v2 ev2 => ?_)
        replace h := h v2 ev2
        refine lv_istore_n (lv' := [(1, .int v2), (0, .int x0), (2, .int x2)]) hx hb ddX5_bits_17 rfl hl (by decide) rfl (fun ls hl => ?_)
        obtain ⟨v3, ev3⟩ : ∃ y : Int32, y = x2 + (1 : Int32) := ⟨_, rfl⟩
        replace h := h v3 ev3
        refine lv_iinc (v := v3) (lv' := [(2, .int v3), (1, .int v2), (0, .int x0)]) hx hb ddX5_bits_18 hl (k := 2) rfl (by rw [ev3]; rfl) (by decide) rfl (fun ls hl => ?_)
        refine lv_goto (tgt := 4) hx hb ddX5_bits_21 (by decide) ?_
        exact ih4 _ _ _ _ _ _ _ hS (lv_sub hl [2, 1, 0] rfl) h
  unfold wp_X5_bits at h
  refine lv_iconst (v := (0 : Int32)) hx hb ddX5_bits_0 (by decide) ?_
  refine lv_istore_n (lv' := [(1, .int (0 : Int32)), (0, .int x0)]) hx hb ddX5_bits_1 rfl hl (by decide) rfl (fun ls hl => ?_)
  refine lv_iconst (v := (0 : Int32)) hx hb ddX5_bits_2 (by decide) ?_
  refine lv_istore_n (lv' := [(2, .int (0 : Int32)), (1, .int (0 : Int32)), (0, .int x0)]) hx hb ddX5_bits_3 rfl hl (by decide) rfl (fun ls hl => ?_)
  obtain ⟨n, h⟩ := h
  exact hL4 n _ _ _ _ _ _ _ hS (lv_sub hl [2, 1, 0] rfl) h

set_option maxHeartbeats 4000000 in
set_option maxRecDepth 100000 in
theorem c_X5_grantLeave (l : Launch) (X : GX) {x1 x2 x3 : Int32} {σ : Mem} {K : Int32 → Mem → Prop} (h : wp_X5_grantLeave x1 x2 x3 σ K) : MI l X yX5_grantLeave cX5_grantLeave 6 ((Option.some Jvm.ClassFile.FieldType.int)) ({ frames := 3, cells := 0, slots := 0, locals := 65 } : Room) [.ref (ga X 25), .int x1, .int x2, .int x3] σ K := by
  refine ent_met (QQ := fun A => va_Qi K (BW X A) A) (by decide) (Nat.le_of_ble_eq_true rfl) ?_
  intro p e s m args below meth c A ls hx hb hr hlocks hml hown ht hK hZ hA hS hl
  have hown : s.vm.findClass "GuardRosterModel" = some m.cls := hown
  have hl : lv_has ls 6 [(0, .ref (ga X 25)), (1, .int x1), (2, .int x2), (3, .int x3)] := hl
  have hJ130 : ∀ (x1 x4 : Int32) (σ : Mem) (H : Heap) (locs : List Loc) (ls : Array Slot), WS X A s.heap σ H locs → lv_has ls 6 [(0, .ref (ga X 25)), (1, .int x1), (4, .int x4)] → wpJ_X5_grantLeave_130 K x1 x4 σ → WI X K p l e ({ frames := 3, cells := 0, slots := 0, locals := 65 } : Room) s m args below meth c A H locs (F0 m 130 ls []) := by
    intro x1 x4 σ H locs ls hS hl h
    unfold wpJ_X5_grantLeave_130 at h
    refine lv_aload_n hx hb ddX5_grantLeave_130 rfl (lv_at hl 0 rfl) ?_
    refine get_25_7 hx hb hown ht hK hS lk1131 ddX5_grantLeave_131 ?_
    refine lv_if_le (tgt := 139) hx hb ddX5_grantLeave_134 (by decide) (fun c15 => ?_) (fun c15 => ?_)
    · replace h := h.1 c15
      refine lv_aload_n hx hb ddX5_grantLeave_139 rfl (lv_at hl 0 rfl) ?_
      refine get_25_0 hx hb hown ht hK hS lk1124 ddX5_grantLeave_140 ?_
      refine lv_bipush (v := (29 : Int32)) hx hb ddX5_grantLeave_143 (by decide) ?_
      refine lv_iload_n hx hb ddX5_grantLeave_145 rfl (lv_at hl 1 rfl) ?_
      refine lv_iadd hx hb ddX5_grantLeave_146 ?_
      refine ald_26 hx hb hK hS h.1 ddX5_grantLeave_147 ?_
      replace h := h.2
      refine k_SI (As := [.int (σ 26 ((29 : Int32) + x1).toNatClampNeg)]) (rest := []) (c_X5_bits l X h) mf_X5_bits lk1389 hx hb hml hown ht hK hZ hS hA ⟨rfl, rfl⟩ ⟨Nat.le_of_ble_eq_true rfl, Nat.le_of_ble_eq_true rfl⟩ rfl hl.1 rfl (Nat.le_of_ble_eq_true rfl) ⟨Nat.le_of_ble_eq_true rfl, Nat.le_of_ble_eq_true rfl⟩ ddX5_grantLeave_148 (fun r17 σ16 H locs hS h => ?_)
      refine lv_istore (lv' := [(5, .int r17), (0, .ref (ga X 25)), (1, .int x1), (4, .int x4)]) hx hb ddX5_grantLeave_151 hl (by decide) rfl (fun ls hl => ?_)
      refine lv_aload_n hx hb ddX5_grantLeave_153 rfl (lv_at hl 1 rfl) ?_
      refine lv_aload_n hx hb ddX5_grantLeave_154 rfl (lv_at hl 1 rfl) ?_
      refine get_25_0 hx hb hown ht hK hS lk1124 ddX5_grantLeave_155 ?_
      refine k_VV (As := [.ref (ga X 26)]) (rest := []) (c_X5_keeps_26 l X h) mf_X5_keeps lk1203 hx hb hml hown ht hK hZ hS hA 25 5 rfl rfl rfl ⟨rfl, rfl⟩ ⟨Nat.le_of_ble_eq_true rfl, Nat.le_of_ble_eq_true rfl⟩ rfl hl.1 rfl (Nat.le_of_ble_eq_true rfl) ⟨Nat.le_of_ble_eq_true rfl, Nat.le_of_ble_eq_true rfl⟩ ddX5_grantLeave_158 (fun σ18 H locs hS h => ?_)
      refine lv_aload_n hx hb ddX5_grantLeave_161 rfl (lv_at hl 1 rfl) ?_
      refine get_25_0 hx hb hown ht hK hS lk1124 ddX5_grantLeave_162 ?_
      refine lv_bipush (v := (29 : Int32)) hx hb ddX5_grantLeave_165 (by decide) ?_
      refine lv_iload_n hx hb ddX5_grantLeave_167 rfl (lv_at hl 2 rfl) ?_
      refine lv_iadd hx hb ddX5_grantLeave_168 ?_
      refine lv_dup2_11 hx hb ddX5_grantLeave_169 rfl rfl ?_
      refine ald_26 hx hb hK hS h.1 ddX5_grantLeave_170 ?_
      replace h := h.2
      refine lv_iload hx hb ddX5_grantLeave_171 (lv_at hl 3 rfl) ?_
      refine lv_ior hx hb ddX5_grantLeave_173 ?_
      refine ast_26 hx hb hK hS h.1 ddX5_grantLeave_174 (fun H locs hS => ?_)
      replace h := h.2
      obtain ⟨σ19, eσ19⟩ : ∃ y : Mem, y = (st σ18 26 ((29 : Int32) + x1).toNatClampNeg ((σ18 26 ((29 : Int32) + x1).toNatClampNeg) ||| x4)) := ⟨_, rfl⟩
      rw [← eσ19] at hS
      replace h := h σ19 eσ19
      refine lv_aload_n hx hb ddX5_grantLeave_175 rfl (lv_at hl 1 rfl) ?_
      refine get_25_0 hx hb hown ht hK hS lk1124 ddX5_grantLeave_176 ?_
      refine lv_bipush (v := (29 : Int32)) hx hb ddX5_grantLeave_179 (by decide) ?_
      refine lv_iload_n hx hb ddX5_grantLeave_181 rfl (lv_at hl 2 rfl) ?_
      refine lv_iadd hx hb ddX5_grantLeave_182 ?_
      refine ald_26 hx hb hK hS h.1 ddX5_grantLeave_183 ?_
      replace h := h.2
      refine k_SI (As := [.int (σ19 26 ((29 : Int32) + x1).toNatClampNeg)]) (rest := []) (c_X5_bits l X h) mf_X5_bits lk1389 hx hb hml hown ht hK hZ hS hA ⟨rfl, rfl⟩ ⟨Nat.le_of_ble_eq_true rfl, Nat.le_of_ble_eq_true rfl⟩ rfl hl.1 rfl (Nat.le_of_ble_eq_true rfl) ⟨Nat.le_of_ble_eq_true rfl, Nat.le_of_ble_eq_true rfl⟩ ddX5_grantLeave_184 (fun r21 σ20 H locs hS h => ?_)
      refine lv_iload hx hb ddX5_grantLeave_187 (lv_at hl 0 rfl) ?_
      refine lv_isub hx hb ddX5_grantLeave_189 ?_
      exact k_iret hx hb hr hlocks hK hS h ddX5_grantLeave_190
    · replace h := h.2 c15
      refine lv_iconst (v := (0 : Int32)) hx hb ddX5_grantLeave_137 (by decide) ?_
      exact k_iret hx hb hr hlocks hK hS h ddX5_grantLeave_138
  have hL75 : ∀ (n : Nat) (x1 x2 x4 x5 : Int32) (σ : Mem) (H : Heap) (locs : List Loc) (ls : Array Slot), WS X A s.heap σ H locs → lv_has ls 6 [(0, .ref (ga X 25)), (1, .int x1), (2, .int x2), (4, .int x4), (5, .int x5)] → wlp (wpF_X5_grantLeave_75 K) n (x1, x2, x4, x5, σ) → WI X K p l e ({ frames := 3, cells := 0, slots := 0, locals := 65 } : Room) s m args below meth c A H locs (F0 m 75 ls []) := by
    intro n75
    induction n75 with
    | zero => intro x1 x2 x4 x5 σ H locs ls hS hl h; exact h.elim
    | succ n75 ih75 =>
      have hJ124 : ∀ (x1 x2 x4 x5 : Int32) (σ : Mem) (H : Heap) (locs : List Loc) (ls : Array Slot), WS X A s.heap σ H locs → lv_has ls 6 [(0, .ref (ga X 25)), (1, .int x1), (2, .int x2), (4, .int x4), (5, .int x5)] → wpJ_X5_grantLeave_124 K (wlp (wpF_X5_grantLeave_75 K) n75) x1 x2 x4 x5 σ → WI X K p l e ({ frames := 3, cells := 0, slots := 0, locals := 65 } : Room) s m args below meth c A H locs (F0 m 124 ls []) := by
        intro x1 x2 x4 x5 σ H locs ls hS hl h
        unfold wpJ_X5_grantLeave_124 at h
        obtain ⟨v31, ev31⟩ : ∃ y : Int32, y = x5 + (-1 : Int32) := ⟨_, rfl⟩
        replace h := h v31 ev31
        refine lv_iinc (v := v31) (lv' := [(5, .int v31), (0, .ref (ga X 25)), (1, .int x1), (2, .int x2), (4, .int x4)]) hx hb ddX5_grantLeave_124 hl (k := 4) rfl (by rw [ev31]; rfl) (by decide) rfl (fun ls hl => ?_)
        refine lv_goto (tgt := 75) hx hb ddX5_grantLeave_127 (by decide) ?_
        exact ih75 _ _ _ _ _ _ _ _ hS (lv_sub hl [1, 2, 3, 4, 0] rfl) h
      intro x1 x2 x4 x5 σ H locs ls hS hl h
      replace h : wpS_X5_grantLeave_75 K (wlp (wpF_X5_grantLeave_75 K) n75) x1 x2 x4 x5 σ := h
      unfold wpS_X5_grantLeave_75 at h
      refine lv_iload hx hb ddX5_grantLeave_75 (lv_at hl 4 rfl) ?_
      refine lv_iload_n hx hb ddX5_grantLeave_77 rfl (lv_at hl 2 rfl) ?_
      refine lv_icmp_lt (tgt := 130) hx hb ddX5_grantLeave_78 (by decide) (fun c14 => ?_) (fun c14 => ?_)
      · replace h := h.1 c14
        exact hJ130 _ _ _ _ _ _ hS (lv_sub hl [0, 1, 3] rfl) h
      · replace h := h.2 c14
        refine lv_iload hx hb ddX5_grantLeave_81 (lv_at hl 3 rfl) ?_
        refine lv_iconst (v := (1 : Int32)) hx hb ddX5_grantLeave_83 (by decide) ?_
        refine lv_iload hx hb ddX5_grantLeave_84 (lv_at hl 4 rfl) ?_
        refine lv_ishl hx hb ddX5_grantLeave_86 ?_
        refine lv_ior hx hb ddX5_grantLeave_87 ?_
        refine lv_topi (fun v22 ev22 => ?_)
        replace h := h v22 ev22
        refine lv_istore (lv' := [(4, .int v22), (0, .ref (ga X 25)), (1, .int x1), (2, .int x2), (5, .int x5)]) hx hb ddX5_grantLeave_88 hl (by decide) rfl (fun ls hl => ?_)
        refine lv_aload_n hx hb ddX5_grantLeave_90 rfl (lv_at hl 1 rfl) ?_
        refine lv_iload_n hx hb ddX5_grantLeave_91 rfl (lv_at hl 2 rfl) ?_
        refine lv_iload hx hb ddX5_grantLeave_92 (lv_at hl 4 rfl) ?_
        refine k_VI (As := [.int x1, .int x5]) (rest := []) (c_X5_where l X h) mf_X5_where lk1277 hx hb hml hown ht hK hZ hS hA 25 5 rfl rfl rfl ⟨rfl, rfl⟩ ⟨Nat.le_of_ble_eq_true rfl, Nat.le_of_ble_eq_true rfl⟩ rfl hl.1 rfl (Nat.le_of_ble_eq_true rfl) ⟨Nat.le_of_ble_eq_true rfl, Nat.le_of_ble_eq_true rfl⟩ ddX5_grantLeave_94 (fun r24 σ23 H locs hS h => ?_)
        refine lv_if_ge (tgt := 103) hx hb ddX5_grantLeave_97 (by decide) (fun c25 => ?_) (fun c25 => ?_)
        · replace h := h.1 c25
          refine lv_aload_n hx hb ddX5_grantLeave_103 rfl (lv_at hl 1 rfl) ?_
          refine lv_iconst (v := (4 : Int32)) hx hb ddX5_grantLeave_104 (by decide) ?_
          refine put_25_8 hx hb hown ht hK hS lk1132 ddX5_grantLeave_105 (fun H locs hS => ?_)
          obtain ⟨σ26, eσ26⟩ : ∃ y : Mem, y = (st σ23 25 8 (4 : Int32)) := ⟨_, rfl⟩
          rw [← eσ26] at hS
          replace h := h σ26 eσ26
          refine lv_aload_n hx hb ddX5_grantLeave_108 rfl (lv_at hl 1 rfl) ?_
          refine lv_aload_n hx hb ddX5_grantLeave_109 rfl (lv_at hl 1 rfl) ?_
          refine lv_iload_n hx hb ddX5_grantLeave_110 rfl (lv_at hl 2 rfl) ?_
          refine lv_iload hx hb ddX5_grantLeave_111 (lv_at hl 4 rfl) ?_
          refine k_VI (As := [.int x1, .int x5]) (rest := [.ref (ga X 25)]) (c_X5_where l X h) mf_X5_where lk1277 hx hb hml hown ht hK hZ hS hA 25 5 rfl rfl rfl ⟨rfl, rfl⟩ ⟨Nat.le_of_ble_eq_true rfl, Nat.le_of_ble_eq_true rfl⟩ rfl hl.1 rfl (Nat.le_of_ble_eq_true rfl) ⟨Nat.le_of_ble_eq_true rfl, Nat.le_of_ble_eq_true rfl⟩ ddX5_grantLeave_113 (fun r28 σ27 H locs hS h => ?_)
          refine put_25_9 hx hb hown ht hK hS lk1133 ddX5_grantLeave_116 (fun H locs hS => ?_)
          obtain ⟨σ29, eσ29⟩ : ∃ y : Mem, y = (st σ27 25 9 r28) := ⟨_, rfl⟩
          rw [← eσ29] at hS
          replace h := h σ29 eσ29
          refine lv_aload_n hx hb ddX5_grantLeave_119 rfl (lv_at hl 1 rfl) ?_
          refine lv_iconst (v := (4 : Int32)) hx hb ddX5_grantLeave_120 (by decide) ?_
          refine put_25_7 hx hb hown ht hK hS lk1131 ddX5_grantLeave_121 (fun H locs hS => ?_)
          obtain ⟨σ30, eσ30⟩ : ∃ y : Mem, y = (st σ29 25 7 (4 : Int32)) := ⟨_, rfl⟩
          rw [← eσ30] at hS
          replace h := h σ30 eσ30
          exact hJ124 _ _ _ _ _ _ _ _ hS (lv_sub hl [1, 2, 3, 0, 4] rfl) h
        · replace h := h.2 c25
          refine lv_goto (tgt := 124) hx hb ddX5_grantLeave_100 (by decide) ?_
          exact hJ124 _ _ _ _ _ _ _ _ hS (lv_sub hl [1, 2, 3, 0, 4] rfl) h
  have hJ61 : ∀ (x1 x2 x3 y1 : Int32) (σ : Mem) (H : Heap) (locs : List Loc) (ls : Array Slot), WS X A s.heap σ H locs → lv_has ls 6 [(0, .ref (ga X 25)), (1, .int x1), (2, .int x2), (3, .int x3)] → wpJ_X5_grantLeave_61 K x1 x2 x3 y1 σ → WI X K p l e ({ frames := 3, cells := 0, slots := 0, locals := 65 } : Room) s m args below meth c A H locs (F0 m 61 ls [.int y1, .ref (ga X 25)]) := by
    intro x1 x2 x3 y1 σ H locs ls hS hl h
    unfold wpJ_X5_grantLeave_61 at h
    refine k_VI (As := [.int y1]) (rest := []) (c_X5_fails l X h) mf_X5_fails lk1199 hx hb hml hown ht hK hZ hS hA 25 5 rfl rfl rfl ⟨rfl, rfl⟩ ⟨Nat.le_of_ble_eq_true rfl, Nat.le_of_ble_eq_true rfl⟩ rfl hl.1 rfl (Nat.le_of_ble_eq_true rfl) ⟨Nat.le_of_ble_eq_true rfl, Nat.le_of_ble_eq_true rfl⟩ ddX5_grantLeave_61 (fun r12 σ11 H locs hS h => ?_)
    refine lv_if_eq (tgt := 69) hx hb ddX5_grantLeave_64 (by decide) (fun c13 => ?_) (fun c13 => ?_)
    · replace h := h.1 c13
      refine lv_iconst (v := (0 : Int32)) hx hb ddX5_grantLeave_69 (by decide) ?_
      refine lv_istore (lv' := [(4, .int (0 : Int32)), (0, .ref (ga X 25)), (1, .int x1), (2, .int x2), (3, .int x3)]) hx hb ddX5_grantLeave_70 hl (by decide) rfl (fun ls hl => ?_)
      refine lv_iload_n hx hb ddX5_grantLeave_72 rfl (lv_at hl 4 rfl) ?_
      refine lv_istore (lv' := [(5, .int x3), (4, .int (0 : Int32)), (0, .ref (ga X 25)), (1, .int x1), (2, .int x2), (3, .int x3)]) hx hb ddX5_grantLeave_73 hl (by decide) rfl (fun ls hl => ?_)
      obtain ⟨n, h⟩ := h
      exact hL75 n _ _ _ _ _ _ _ _ hS (lv_sub hl [2, 3, 4, 1, 0] rfl) h
    · replace h := h.2 c13
      refine lv_iconst (v := (0 : Int32)) hx hb ddX5_grantLeave_67 (by decide) ?_
      exact k_iret hx hb hr hlocks hK hS h ddX5_grantLeave_68
  have hJ37 : ∀ (x1 x2 x3 y1 : Int32) (σ : Mem) (H : Heap) (locs : List Loc) (ls : Array Slot), WS X A s.heap σ H locs → lv_has ls 6 [(0, .ref (ga X 25)), (1, .int x1), (2, .int x2), (3, .int x3)] → wpJ_X5_grantLeave_37 K x1 x2 x3 y1 σ → WI X K p l e ({ frames := 3, cells := 0, slots := 0, locals := 65 } : Room) s m args below meth c A H locs (F0 m 37 ls [.int y1, .ref (ga X 25)]) := by
    intro x1 x2 x3 y1 σ H locs ls hS hl h
    unfold wpJ_X5_grantLeave_37 at h
    refine k_VI (As := [.int y1]) (rest := []) (c_X5_fails l X h) mf_X5_fails lk1199 hx hb hml hown ht hK hZ hS hA 25 5 rfl rfl rfl ⟨rfl, rfl⟩ ⟨Nat.le_of_ble_eq_true rfl, Nat.le_of_ble_eq_true rfl⟩ rfl hl.1 rfl (Nat.le_of_ble_eq_true rfl) ⟨Nat.le_of_ble_eq_true rfl, Nat.le_of_ble_eq_true rfl⟩ ddX5_grantLeave_37 (fun r8 σ7 H locs hS h => ?_)
    refine lv_if_eq (tgt := 45) hx hb ddX5_grantLeave_40 (by decide) (fun c9 => ?_) (fun c9 => ?_)
    · replace h := h.1 c9
      refine lv_aload_n hx hb ddX5_grantLeave_45 rfl (lv_at hl 0 rfl) ?_
      refine lv_iload_n hx hb ddX5_grantLeave_46 rfl (lv_at hl 2 rfl) ?_
      refine lv_aload_n hx hb ddX5_grantLeave_47 rfl (lv_at hl 0 rfl) ?_
      refine get_25_0 hx hb hown ht hK hS lk1124 ddX5_grantLeave_48 ?_
      refine lv_iconst (v := (2 : Int32)) hx hb ddX5_grantLeave_51 (by decide) ?_
      refine aldk_26 hx hb hK hS 2 (by unfold vp_in; decide) rfl ddX5_grantLeave_52 ?_
      refine lv_icmp_ge (tgt := 60) hx hb ddX5_grantLeave_53 (by decide) (fun c10 => ?_) (fun c10 => ?_)
      · replace h := h.1 c10
        refine lv_iconst (v := (0 : Int32)) hx hb ddX5_grantLeave_60 (by decide) ?_
        exact hJ61 _ _ _ _ _ _ _ _ hS (lv_sub hl [0, 1, 2, 3] rfl) h
      · replace h := h.2 c10
        refine lv_iconst (v := (3 : Int32)) hx hb ddX5_grantLeave_56 (by decide) ?_
        refine lv_goto (tgt := 61) hx hb ddX5_grantLeave_57 (by decide) ?_
        exact hJ61 _ _ _ _ _ _ _ _ hS (lv_sub hl [0, 1, 2, 3] rfl) h
    · replace h := h.2 c9
      refine lv_iconst (v := (0 : Int32)) hx hb ddX5_grantLeave_43 (by decide) ?_
      exact k_iret hx hb hr hlocks hK hS h ddX5_grantLeave_44
  have hJ36 : ∀ (x1 x2 x3 : Int32) (σ : Mem) (H : Heap) (locs : List Loc) (ls : Array Slot), WS X A s.heap σ H locs → lv_has ls 6 [(0, .ref (ga X 25)), (1, .int x1), (2, .int x2), (3, .int x3)] → wpJ_X5_grantLeave_36 K x1 x2 x3 σ → WI X K p l e ({ frames := 3, cells := 0, slots := 0, locals := 65 } : Room) s m args below meth c A H locs (F0 m 36 ls [.ref (ga X 25)]) := by
    intro x1 x2 x3 σ H locs ls hS hl h
    unfold wpJ_X5_grantLeave_36 at h
    refine lv_iconst (v := (2 : Int32)) hx hb ddX5_grantLeave_36 (by decide) ?_
    exact hJ37 _ _ _ _ _ _ _ _ hS (lv_sub hl [0, 1, 2, 3] rfl) h
  unfold wp_X5_grantLeave at h
  refine lv_aload_n hx hb ddX5_grantLeave_0 rfl (lv_at hl 0 rfl) ?_
  refine lv_aload_n hx hb ddX5_grantLeave_1 rfl (lv_at hl 0 rfl) ?_
  refine lv_iload_n hx hb ddX5_grantLeave_2 rfl (lv_at hl 1 rfl) ?_
  refine k_VI (As := [.int x1]) (rest := [.ref (ga X 25)]) (c_X5_isGuard l X h) mf_X5_isGuard lk1238 hx hb hml hown ht hK hZ hS hA 25 5 rfl rfl rfl ⟨rfl, rfl⟩ ⟨Nat.le_of_ble_eq_true rfl, Nat.le_of_ble_eq_true rfl⟩ rfl hl.1 rfl (Nat.le_of_ble_eq_true rfl) ⟨Nat.le_of_ble_eq_true rfl, Nat.le_of_ble_eq_true rfl⟩ ddX5_grantLeave_3 (fun r2 σ1 H locs hS h => ?_)
  refine lv_if_ne (tgt := 13) hx hb ddX5_grantLeave_6 (by decide) (fun c3 => ?_) (fun c3 => ?_)
  · replace h := h.1 c3
    refine lv_iload_n hx hb ddX5_grantLeave_13 rfl (lv_at hl 2 rfl) ?_
    refine k_SI (As := [.int x2]) (rest := [.ref (ga X 25)]) (c_X5_isSlot l X h) mf_X5_isSlot lk1258 hx hb hml hown ht hK hZ hS hA ⟨rfl, rfl⟩ ⟨Nat.le_of_ble_eq_true rfl, Nat.le_of_ble_eq_true rfl⟩ rfl hl.1 rfl (Nat.le_of_ble_eq_true rfl) ⟨Nat.le_of_ble_eq_true rfl, Nat.le_of_ble_eq_true rfl⟩ ddX5_grantLeave_14 (fun r5 σ4 H locs hS h => ?_)
    refine lv_if_eq (tgt := 36) hx hb ddX5_grantLeave_17 (by decide) (fun c6 => ?_) (fun c6 => ?_)
    · replace h := h.1 c6
      exact hJ36 _ _ _ _ _ _ _ hS (lv_sub hl [0, 1, 2, 3] rfl) h
    · replace h := h.2 c6
      refine lv_iload_n hx hb ddX5_grantLeave_20 rfl (lv_at hl 3 rfl) ?_
      refine k_SI (As := [.int x3]) (rest := [.ref (ga X 25)]) (c_X5_isSlot l X h) mf_X5_isSlot lk1258 hx hb hml hown ht hK hZ hS hA ⟨rfl, rfl⟩ ⟨Nat.le_of_ble_eq_true rfl, Nat.le_of_ble_eq_true rfl⟩ rfl hl.1 rfl (Nat.le_of_ble_eq_true rfl) ⟨Nat.le_of_ble_eq_true rfl, Nat.le_of_ble_eq_true rfl⟩ ddX5_grantLeave_21 (fun r33 σ32 H locs hS h => ?_)
      refine lv_if_eq (tgt := 36) hx hb ddX5_grantLeave_24 (by decide) (fun c34 => ?_) (fun c34 => ?_)
      · replace h := h.1 c34
        exact hJ36 _ _ _ _ _ _ _ hS (lv_sub hl [0, 1, 2, 3] rfl) h
      · replace h := h.2 c34
        refine lv_iload_n hx hb ddX5_grantLeave_27 rfl (lv_at hl 2 rfl) ?_
        refine lv_iload_n hx hb ddX5_grantLeave_28 rfl (lv_at hl 3 rfl) ?_
        refine lv_icmp_gt (tgt := 36) hx hb ddX5_grantLeave_29 (by decide) (fun c35 => ?_) (fun c35 => ?_)
        · replace h := h.1 c35
          exact hJ36 _ _ _ _ _ _ _ hS (lv_sub hl [0, 1, 2, 3] rfl) h
        · replace h := h.2 c35
          refine lv_iconst (v := (0 : Int32)) hx hb ddX5_grantLeave_32 (by decide) ?_
          refine lv_goto (tgt := 37) hx hb ddX5_grantLeave_33 (by decide) ?_
          exact hJ37 _ _ _ _ _ _ _ _ hS (lv_sub hl [0, 1, 2, 3] rfl) h
  · replace h := h.2 c3
    refine lv_iconst (v := (1 : Int32)) hx hb ddX5_grantLeave_9 (by decide) ?_
    refine lv_goto (tgt := 37) hx hb ddX5_grantLeave_10 (by decide) ?_
    exact hJ37 _ _ _ _ _ _ _ _ hS (lv_sub hl [0, 1, 2, 3] rfl) h

set_option maxHeartbeats 4000000 in
set_option maxRecDepth 100000 in
theorem c_X5_endLeave (l : Launch) (X : GX) {x1 x2 : Int32} {σ : Mem} {K : Int32 → Mem → Prop} (h : wp_X5_endLeave x1 x2 σ K) : MI l X yX5_endLeave cX5_endLeave 3 ((Option.some Jvm.ClassFile.FieldType.int)) ({ frames := 2, cells := 0, slots := 0, locals := 46 } : Room) [.ref (ga X 25), .int x1, .int x2] σ K := by
  refine ent_met (QQ := fun A => va_Qi K (BW X A) A) (by decide) (Nat.le_of_ble_eq_true rfl) ?_
  intro p e s m args below meth c A ls hx hb hr hlocks hml hown ht hK hZ hA hS hl
  have hown : s.vm.findClass "GuardRosterModel" = some m.cls := hown
  have hl : lv_has ls 3 [(0, .ref (ga X 25)), (1, .int x1), (2, .int x2)] := hl
  have hJ34 : ∀ (x1 x2 y1 : Int32) (σ : Mem) (H : Heap) (locs : List Loc) (ls : Array Slot), WS X A s.heap σ H locs → lv_has ls 3 [(0, .ref (ga X 25)), (1, .int x1), (2, .int x2)] → wpJ_X5_endLeave_34 K x1 x2 y1 σ → WI X K p l e ({ frames := 2, cells := 0, slots := 0, locals := 46 } : Room) s m args below meth c A H locs (F0 m 34 ls [.int y1, .ref (ga X 25)]) := by
    intro x1 x2 y1 σ H locs ls hS hl h
    unfold wpJ_X5_endLeave_34 at h
    refine k_VI (As := [.int y1]) (rest := []) (c_X5_fails l X h) mf_X5_fails lk1199 hx hb hml hown ht hK hZ hS hA 25 5 rfl rfl rfl ⟨rfl, rfl⟩ ⟨Nat.le_of_ble_eq_true rfl, Nat.le_of_ble_eq_true rfl⟩ rfl hl.1 rfl (Nat.le_of_ble_eq_true rfl) ⟨Nat.le_of_ble_eq_true rfl, Nat.le_of_ble_eq_true rfl⟩ ddX5_endLeave_34 (fun r5 σ4 H locs hS h => ?_)
    refine lv_if_eq (tgt := 42) hx hb ddX5_endLeave_37 (by decide) (fun c6 => ?_) (fun c6 => ?_)
    · replace h := h.1 c6
      refine lv_aload_n hx hb ddX5_endLeave_42 rfl (lv_at hl 0 rfl) ?_
      refine lv_aload_n hx hb ddX5_endLeave_43 rfl (lv_at hl 0 rfl) ?_
      refine get_25_0 hx hb hown ht hK hS lk1124 ddX5_endLeave_44 ?_
      refine k_VV (As := [.ref (ga X 26)]) (rest := []) (c_X5_keeps_26 l X h) mf_X5_keeps lk1203 hx hb hml hown ht hK hZ hS hA 25 5 rfl rfl rfl ⟨rfl, rfl⟩ ⟨Nat.le_of_ble_eq_true rfl, Nat.le_of_ble_eq_true rfl⟩ rfl hl.1 rfl (Nat.le_of_ble_eq_true rfl) ⟨Nat.le_of_ble_eq_true rfl, Nat.le_of_ble_eq_true rfl⟩ ddX5_endLeave_47 (fun σ7 H locs hS h => ?_)
      refine lv_aload_n hx hb ddX5_endLeave_50 rfl (lv_at hl 0 rfl) ?_
      refine get_25_0 hx hb hown ht hK hS lk1124 ddX5_endLeave_51 ?_
      refine lv_bipush (v := (29 : Int32)) hx hb ddX5_endLeave_54 (by decide) ?_
      refine lv_iload_n hx hb ddX5_endLeave_56 rfl (lv_at hl 1 rfl) ?_
      refine lv_iadd hx hb ddX5_endLeave_57 ?_
      refine lv_dup2_11 hx hb ddX5_endLeave_58 rfl rfl ?_
      refine ald_26 hx hb hK hS h.1 ddX5_endLeave_59 ?_
      replace h := h.2
      refine lv_iconst (v := (1 : Int32)) hx hb ddX5_endLeave_60 (by decide) ?_
      refine lv_iload_n hx hb ddX5_endLeave_61 rfl (lv_at hl 2 rfl) ?_
      refine lv_ishl hx hb ddX5_endLeave_62 ?_
      refine lv_iconst (v := (-1 : Int32)) hx hb ddX5_endLeave_63 (by decide) ?_
      refine lv_ixor hx hb ddX5_endLeave_64 ?_
      refine lv_iand hx hb ddX5_endLeave_65 ?_
      refine ast_26 hx hb hK hS h.1 ddX5_endLeave_66 (fun H locs hS => ?_)
      replace h := h.2
      obtain ⟨σ8, eσ8⟩ : ∃ y : Mem, y = (st σ7 26 ((29 : Int32) + x1).toNatClampNeg ((σ7 26 ((29 : Int32) + x1).toNatClampNeg) &&& (((1 : Int32) <<< (x2 &&& 31)) ^^^ (-1 : Int32)))) := ⟨_, rfl⟩
      rw [← eσ8] at hS
      replace h := h σ8 eσ8
      refine lv_aload_n hx hb ddX5_endLeave_67 rfl (lv_at hl 0 rfl) ?_
      refine get_25_0 hx hb hown ht hK hS lk1124 ddX5_endLeave_68 ?_
      refine lv_bipush (v := (29 : Int32)) hx hb ddX5_endLeave_71 (by decide) ?_
      refine lv_iload_n hx hb ddX5_endLeave_73 rfl (lv_at hl 1 rfl) ?_
      refine lv_iadd hx hb ddX5_endLeave_74 ?_
      refine ald_26 hx hb hK hS h.1 ddX5_endLeave_75 ?_
      replace h := h.2
      refine k_SI (As := [.int (σ8 26 ((29 : Int32) + x1).toNatClampNeg)]) (rest := []) (c_X5_bits l X h) mf_X5_bits lk1389 hx hb hml hown ht hK hZ hS hA ⟨rfl, rfl⟩ ⟨Nat.le_of_ble_eq_true rfl, Nat.le_of_ble_eq_true rfl⟩ rfl hl.1 rfl (Nat.le_of_ble_eq_true rfl) ⟨Nat.le_of_ble_eq_true rfl, Nat.le_of_ble_eq_true rfl⟩ ddX5_endLeave_76 (fun r10 σ9 H locs hS h => ?_)
      exact k_iret hx hb hr hlocks hK hS h ddX5_endLeave_79
    · replace h := h.2 c6
      refine lv_iconst (v := (0 : Int32)) hx hb ddX5_endLeave_40 (by decide) ?_
      exact k_iret hx hb hr hlocks hK hS h ddX5_endLeave_41
  have hJ16 : ∀ (x1 x2 : Int32) (σ : Mem) (H : Heap) (locs : List Loc) (ls : Array Slot), WS X A s.heap σ H locs → lv_has ls 3 [(0, .ref (ga X 25)), (1, .int x1), (2, .int x2)] → wpJ_X5_endLeave_16 K x1 x2 σ → WI X K p l e ({ frames := 2, cells := 0, slots := 0, locals := 46 } : Room) s m args below meth c A H locs (F0 m 16 ls [.ref (ga X 25)]) := by
    intro x1 x2 σ H locs ls hS hl h
    unfold wpJ_X5_endLeave_16 at h
    refine lv_iconst (v := (1 : Int32)) hx hb ddX5_endLeave_16 (by decide) ?_
    refine lv_goto (tgt := 34) hx hb ddX5_endLeave_17 (by decide) ?_
    exact hJ34 _ _ _ _ _ _ _ hS (lv_sub hl [0, 1, 2] rfl) h
  unfold wp_X5_endLeave at h
  refine lv_aload_n hx hb ddX5_endLeave_0 rfl (lv_at hl 0 rfl) ?_
  refine lv_aload_n hx hb ddX5_endLeave_1 rfl (lv_at hl 0 rfl) ?_
  refine lv_iload_n hx hb ddX5_endLeave_2 rfl (lv_at hl 1 rfl) ?_
  refine k_VI (As := [.int x1]) (rest := [.ref (ga X 25)]) (c_X5_isGuard l X h) mf_X5_isGuard lk1238 hx hb hml hown ht hK hZ hS hA 25 5 rfl rfl rfl ⟨rfl, rfl⟩ ⟨Nat.le_of_ble_eq_true rfl, Nat.le_of_ble_eq_true rfl⟩ rfl hl.1 rfl (Nat.le_of_ble_eq_true rfl) ⟨Nat.le_of_ble_eq_true rfl, Nat.le_of_ble_eq_true rfl⟩ ddX5_endLeave_3 (fun r2 σ1 H locs hS h => ?_)
  refine lv_if_eq (tgt := 16) hx hb ddX5_endLeave_6 (by decide) (fun c3 => ?_) (fun c3 => ?_)
  · replace h := h.1 c3
    exact hJ16 _ _ _ _ _ _ hS (lv_sub hl [0, 1, 2] rfl) h
  · replace h := h.2 c3
    refine lv_iload_n hx hb ddX5_endLeave_9 rfl (lv_at hl 2 rfl) ?_
    refine k_SI (As := [.int x2]) (rest := [.ref (ga X 25)]) (c_X5_isSlot l X h) mf_X5_isSlot lk1258 hx hb hml hown ht hK hZ hS hA ⟨rfl, rfl⟩ ⟨Nat.le_of_ble_eq_true rfl, Nat.le_of_ble_eq_true rfl⟩ rfl hl.1 rfl (Nat.le_of_ble_eq_true rfl) ⟨Nat.le_of_ble_eq_true rfl, Nat.le_of_ble_eq_true rfl⟩ ddX5_endLeave_10 (fun r12 σ11 H locs hS h => ?_)
    refine lv_if_ne (tgt := 20) hx hb ddX5_endLeave_13 (by decide) (fun c13 => ?_) (fun c13 => ?_)
    · replace h := h.1 c13
      refine lv_aload_n hx hb ddX5_endLeave_20 rfl (lv_at hl 0 rfl) ?_
      refine lv_iload_n hx hb ddX5_endLeave_21 rfl (lv_at hl 1 rfl) ?_
      refine lv_iload_n hx hb ddX5_endLeave_22 rfl (lv_at hl 2 rfl) ?_
      refine k_VI (As := [.int x1, .int x2]) (rest := [.ref (ga X 25)]) (c_X5_isOff l X h) mf_X5_isOff lk1273 hx hb hml hown ht hK hZ hS hA 25 5 rfl rfl rfl ⟨rfl, rfl⟩ ⟨Nat.le_of_ble_eq_true rfl, Nat.le_of_ble_eq_true rfl⟩ rfl hl.1 rfl (Nat.le_of_ble_eq_true rfl) ⟨Nat.le_of_ble_eq_true rfl, Nat.le_of_ble_eq_true rfl⟩ ddX5_endLeave_23 (fun r15 σ14 H locs hS h => ?_)
      refine lv_if_eq (tgt := 33) hx hb ddX5_endLeave_26 (by decide) (fun c16 => ?_) (fun c16 => ?_)
      · replace h := h.1 c16
        refine lv_iconst (v := (2 : Int32)) hx hb ddX5_endLeave_33 (by decide) ?_
        exact hJ34 _ _ _ _ _ _ _ hS (lv_sub hl [0, 1, 2] rfl) h
      · replace h := h.2 c16
        refine lv_iconst (v := (0 : Int32)) hx hb ddX5_endLeave_29 (by decide) ?_
        refine lv_goto (tgt := 34) hx hb ddX5_endLeave_30 (by decide) ?_
        exact hJ34 _ _ _ _ _ _ _ hS (lv_sub hl [0, 1, 2] rfl) h
    · replace h := h.2 c13
      exact hJ16 _ _ _ _ _ _ hS (lv_sub hl [0, 1, 2] rfl) h

set_option maxHeartbeats 4000000 in
set_option maxRecDepth 100000 in
theorem c_X5_isOnLeave (l : Launch) (X : GX) {x1 x2 : Int32} {σ : Mem} {K : Int32 → Mem → Prop} (h : wp_X5_isOnLeave x1 x2 σ K) : MI l X yX5_isOnLeave cX5_isOnLeave 3 ((Option.some Jvm.ClassFile.FieldType.boolean)) ({ frames := 2, cells := 0, slots := 0, locals := 43 } : Room) [.ref (ga X 25), .int x1, .int x2] σ K := by
  refine ent_met (QQ := fun A => va_Qi K (BW X A) A) (by decide) (Nat.le_of_ble_eq_true rfl) ?_
  intro p e s m args below meth c A ls hx hb hr hlocks hml hown ht hK hZ hA hS hl
  have hown : s.vm.findClass "GuardRosterModel" = some m.cls := hown
  have hl : lv_has ls 3 [(0, .ref (ga X 25)), (1, .int x1), (2, .int x2)] := hl
  have hJ21 : ∀ (x1 x2 y1 : Int32) (σ : Mem) (H : Heap) (locs : List Loc) (ls : Array Slot), WS X A s.heap σ H locs → lv_has ls 3 [(0, .ref (ga X 25)), (1, .int x1), (2, .int x2)] → wpJ_X5_isOnLeave_21 K x1 x2 y1 σ → WI X K p l e ({ frames := 2, cells := 0, slots := 0, locals := 43 } : Room) s m args below meth c A H locs (F0 m 21 ls [.int y1, .ref (ga X 25)]) := by
    intro x1 x2 y1 σ H locs ls hS hl h
    unfold wpJ_X5_isOnLeave_21 at h
    refine k_VI (As := [.int y1]) (rest := []) (c_X5_fails l X h) mf_X5_fails lk1199 hx hb hml hown ht hK hZ hS hA 25 5 rfl rfl rfl ⟨rfl, rfl⟩ ⟨Nat.le_of_ble_eq_true rfl, Nat.le_of_ble_eq_true rfl⟩ rfl hl.1 rfl (Nat.le_of_ble_eq_true rfl) ⟨Nat.le_of_ble_eq_true rfl, Nat.le_of_ble_eq_true rfl⟩ ddX5_isOnLeave_21 (fun r5 σ4 H locs hS h => ?_)
    refine lv_if_ne (tgt := 40) hx hb ddX5_isOnLeave_24 (by decide) (fun c6 => ?_) (fun c6 => ?_)
    · replace h := h.1 c6
      refine lv_iconst (v := (0 : Int32)) hx hb ddX5_isOnLeave_40 (by decide) ?_
      exact k_zret hx hb hr hlocks hK hS rfl h ddX5_isOnLeave_41
    · replace h := h.2 c6
      refine lv_aload_n hx hb ddX5_isOnLeave_27 rfl (lv_at hl 0 rfl) ?_
      refine lv_iload_n hx hb ddX5_isOnLeave_28 rfl (lv_at hl 1 rfl) ?_
      refine lv_iload_n hx hb ddX5_isOnLeave_29 rfl (lv_at hl 2 rfl) ?_
      refine k_VI (As := [.int x1, .int x2]) (rest := []) (c_X5_isOff l X h) mf_X5_isOff lk1273 hx hb hml hown ht hK hZ hS hA 25 5 rfl rfl rfl ⟨rfl, rfl⟩ ⟨Nat.le_of_ble_eq_true rfl, Nat.le_of_ble_eq_true rfl⟩ rfl hl.1 rfl (Nat.le_of_ble_eq_true rfl) ⟨Nat.le_of_ble_eq_true rfl, Nat.le_of_ble_eq_true rfl⟩ ddX5_isOnLeave_30 (fun r8 σ7 H locs hS h => ?_)
      refine lv_if_eq (tgt := 40) hx hb ddX5_isOnLeave_33 (by decide) (fun c9 => ?_) (fun c9 => ?_)
      · replace h := h.1 c9
        refine lv_iconst (v := (0 : Int32)) hx hb ddX5_isOnLeave_40 (by decide) ?_
        exact k_zret hx hb hr hlocks hK hS rfl h ddX5_isOnLeave_41
      · replace h := h.2 c9
        refine lv_iconst (v := (1 : Int32)) hx hb ddX5_isOnLeave_36 (by decide) ?_
        refine lv_goto (tgt := 41) hx hb ddX5_isOnLeave_37 (by decide) ?_
        exact k_zret hx hb hr hlocks hK hS rfl h ddX5_isOnLeave_41
  have hJ20 : ∀ (x1 x2 : Int32) (σ : Mem) (H : Heap) (locs : List Loc) (ls : Array Slot), WS X A s.heap σ H locs → lv_has ls 3 [(0, .ref (ga X 25)), (1, .int x1), (2, .int x2)] → wpJ_X5_isOnLeave_20 K x1 x2 σ → WI X K p l e ({ frames := 2, cells := 0, slots := 0, locals := 43 } : Room) s m args below meth c A H locs (F0 m 20 ls [.ref (ga X 25)]) := by
    intro x1 x2 σ H locs ls hS hl h
    unfold wpJ_X5_isOnLeave_20 at h
    refine lv_iconst (v := (1 : Int32)) hx hb ddX5_isOnLeave_20 (by decide) ?_
    exact hJ21 _ _ _ _ _ _ _ hS (lv_sub hl [0, 1, 2] rfl) h
  unfold wp_X5_isOnLeave at h
  refine lv_aload_n hx hb ddX5_isOnLeave_0 rfl (lv_at hl 0 rfl) ?_
  refine lv_aload_n hx hb ddX5_isOnLeave_1 rfl (lv_at hl 0 rfl) ?_
  refine lv_iload_n hx hb ddX5_isOnLeave_2 rfl (lv_at hl 1 rfl) ?_
  refine k_VI (As := [.int x1]) (rest := [.ref (ga X 25)]) (c_X5_isGuard l X h) mf_X5_isGuard lk1238 hx hb hml hown ht hK hZ hS hA 25 5 rfl rfl rfl ⟨rfl, rfl⟩ ⟨Nat.le_of_ble_eq_true rfl, Nat.le_of_ble_eq_true rfl⟩ rfl hl.1 rfl (Nat.le_of_ble_eq_true rfl) ⟨Nat.le_of_ble_eq_true rfl, Nat.le_of_ble_eq_true rfl⟩ ddX5_isOnLeave_3 (fun r2 σ1 H locs hS h => ?_)
  refine lv_if_eq (tgt := 20) hx hb ddX5_isOnLeave_6 (by decide) (fun c3 => ?_) (fun c3 => ?_)
  · replace h := h.1 c3
    exact hJ20 _ _ _ _ _ _ hS (lv_sub hl [0, 1, 2] rfl) h
  · replace h := h.2 c3
    refine lv_iload_n hx hb ddX5_isOnLeave_9 rfl (lv_at hl 2 rfl) ?_
    refine k_SI (As := [.int x2]) (rest := [.ref (ga X 25)]) (c_X5_isSlot l X h) mf_X5_isSlot lk1258 hx hb hml hown ht hK hZ hS hA ⟨rfl, rfl⟩ ⟨Nat.le_of_ble_eq_true rfl, Nat.le_of_ble_eq_true rfl⟩ rfl hl.1 rfl (Nat.le_of_ble_eq_true rfl) ⟨Nat.le_of_ble_eq_true rfl, Nat.le_of_ble_eq_true rfl⟩ ddX5_isOnLeave_10 (fun r11 σ10 H locs hS h => ?_)
    refine lv_if_eq (tgt := 20) hx hb ddX5_isOnLeave_13 (by decide) (fun c12 => ?_) (fun c12 => ?_)
    · replace h := h.1 c12
      exact hJ20 _ _ _ _ _ _ hS (lv_sub hl [0, 1, 2] rfl) h
    · replace h := h.2 c12
      refine lv_iconst (v := (0 : Int32)) hx hb ddX5_isOnLeave_16 (by decide) ?_
      refine lv_goto (tgt := 21) hx hb ddX5_isOnLeave_17 (by decide) ?_
      exact hJ21 _ _ _ _ _ _ _ hS (lv_sub hl [0, 1, 2] rfl) h

set_option maxHeartbeats 4000000 in
set_option maxRecDepth 100000 in
theorem c_X5_leaveSlots (l : Launch) (X : GX) {x1 : Int32} {σ : Mem} {K : Int32 → Mem → Prop} (h : wp_X5_leaveSlots x1 σ K) : MI l X yX5_leaveSlots cX5_leaveSlots 2 ((Option.some Jvm.ClassFile.FieldType.int)) ({ frames := 3, cells := 0, slots := 0, locals := 64 } : Room) [.ref (ga X 25), .int x1] σ K := by
  refine ent_met (QQ := fun A => va_Qi K (BW X A) A) (by decide) (Nat.le_of_ble_eq_true rfl) ?_
  intro p e s m args below meth c A ls hx hb hr hlocks hml hown ht hK hZ hA hS hl
  have hown : s.vm.findClass "GuardRosterModel" = some m.cls := hown
  have hl : lv_has ls 2 [(0, .ref (ga X 25)), (1, .int x1)] := hl
  unfold wp_X5_leaveSlots at h
  refine lv_aload_n hx hb ddX5_leaveSlots_0 rfl (lv_at hl 0 rfl) ?_
  refine lv_iload_n hx hb ddX5_leaveSlots_1 rfl (lv_at hl 1 rfl) ?_
  refine k_VI (As := [.int x1]) (rest := []) (c_X5_isNone l X h) mf_X5_isNone lk1234 hx hb hml hown ht hK hZ hS hA 25 5 rfl rfl rfl ⟨rfl, rfl⟩ ⟨Nat.le_of_ble_eq_true rfl, Nat.le_of_ble_eq_true rfl⟩ rfl hl.1 rfl (Nat.le_of_ble_eq_true rfl) ⟨Nat.le_of_ble_eq_true rfl, Nat.le_of_ble_eq_true rfl⟩ ddX5_leaveSlots_2 (fun r2 σ1 H locs hS h => ?_)
  refine lv_if_eq (tgt := 12) hx hb ddX5_leaveSlots_5 (by decide) (fun c3 => ?_) (fun c3 => ?_)
  · replace h := h.1 c3
    refine lv_aload_n hx hb ddX5_leaveSlots_12 rfl (lv_at hl 0 rfl) ?_
    refine get_25_0 hx hb hown ht hK hS lk1124 ddX5_leaveSlots_13 ?_
    refine lv_bipush (v := (29 : Int32)) hx hb ddX5_leaveSlots_16 (by decide) ?_
    refine lv_iload_n hx hb ddX5_leaveSlots_18 rfl (lv_at hl 1 rfl) ?_
    refine lv_iadd hx hb ddX5_leaveSlots_19 ?_
    refine ald_26 hx hb hK hS h.1 ddX5_leaveSlots_20 ?_
    replace h := h.2
    refine k_SI (As := [.int (σ1 26 ((29 : Int32) + x1).toNatClampNeg)]) (rest := []) (c_X5_bits l X h) mf_X5_bits lk1389 hx hb hml hown ht hK hZ hS hA ⟨rfl, rfl⟩ ⟨Nat.le_of_ble_eq_true rfl, Nat.le_of_ble_eq_true rfl⟩ rfl hl.1 rfl (Nat.le_of_ble_eq_true rfl) ⟨Nat.le_of_ble_eq_true rfl, Nat.le_of_ble_eq_true rfl⟩ ddX5_leaveSlots_21 (fun r5 σ4 H locs hS h => ?_)
    exact k_iret hx hb hr hlocks hK hS h ddX5_leaveSlots_24
  · replace h := h.2 c3
    refine lv_iconst (v := (0 : Int32)) hx hb ddX5_leaveSlots_8 (by decide) ?_
    refine lv_goto (tgt := 24) hx hb ddX5_leaveSlots_9 (by decide) ?_
    exact k_iret hx hb hr hlocks hK hS h ddX5_leaveSlots_24

set_option maxHeartbeats 4000000 in
set_option maxRecDepth 100000 in
theorem c_X5_addRations (l : Launch) (X : GX) {x1 : Int32} {σ : Mem} {K : Int32 → Mem → Prop} (h : wp_X5_addRations x1 σ K) : MI l X yX5_addRations cX5_addRations 2 ((Option.some Jvm.ClassFile.FieldType.int)) ({ frames := 2, cells := 0, slots := 0, locals := 46 } : Room) [.ref (ga X 25), .int x1] σ K := by
  refine ent_met (QQ := fun A => va_Qi K (BW X A) A) (by decide) (Nat.le_of_ble_eq_true rfl) ?_
  intro p e s m args below meth c A ls hx hb hr hlocks hml hown ht hK hZ hA hS hl
  have hown : s.vm.findClass "GuardRosterModel" = some m.cls := hown
  have hl : lv_has ls 2 [(0, .ref (ga X 25)), (1, .int x1)] := hl
  have hJ33 : ∀ (x1 y1 : Int32) (σ : Mem) (H : Heap) (locs : List Loc) (ls : Array Slot), WS X A s.heap σ H locs → lv_has ls 2 [(0, .ref (ga X 25)), (1, .int x1)] → wpJ_X5_addRations_33 K x1 y1 σ → WI X K p l e ({ frames := 2, cells := 0, slots := 0, locals := 46 } : Room) s m args below meth c A H locs (F0 m 33 ls [.int y1, .ref (ga X 25)]) := by
    intro x1 y1 σ H locs ls hS hl h
    unfold wpJ_X5_addRations_33 at h
    refine k_VI (As := [.int y1]) (rest := []) (c_X5_fails l X h) mf_X5_fails lk1199 hx hb hml hown ht hK hZ hS hA 25 5 rfl rfl rfl ⟨rfl, rfl⟩ ⟨Nat.le_of_ble_eq_true rfl, Nat.le_of_ble_eq_true rfl⟩ rfl hl.1 rfl (Nat.le_of_ble_eq_true rfl) ⟨Nat.le_of_ble_eq_true rfl, Nat.le_of_ble_eq_true rfl⟩ ddX5_addRations_33 (fun r6 σ5 H locs hS h => ?_)
    refine lv_if_eq (tgt := 41) hx hb ddX5_addRations_36 (by decide) (fun c7 => ?_) (fun c7 => ?_)
    · replace h := h.1 c7
      refine lv_aload_n hx hb ddX5_addRations_41 rfl (lv_at hl 0 rfl) ?_
      refine lv_aload_n hx hb ddX5_addRations_42 rfl (lv_at hl 0 rfl) ?_
      refine get_25_0 hx hb hown ht hK hS lk1124 ddX5_addRations_43 ?_
      refine k_VV (As := [.ref (ga X 26)]) (rest := []) (c_X5_keeps_26 l X h) mf_X5_keeps lk1203 hx hb hml hown ht hK hZ hS hA 25 5 rfl rfl rfl ⟨rfl, rfl⟩ ⟨Nat.le_of_ble_eq_true rfl, Nat.le_of_ble_eq_true rfl⟩ rfl hl.1 rfl (Nat.le_of_ble_eq_true rfl) ⟨Nat.le_of_ble_eq_true rfl, Nat.le_of_ble_eq_true rfl⟩ ddX5_addRations_46 (fun σ8 H locs hS h => ?_)
      refine lv_aload_n hx hb ddX5_addRations_49 rfl (lv_at hl 0 rfl) ?_
      refine get_25_0 hx hb hown ht hK hS lk1124 ddX5_addRations_50 ?_
      refine lv_iconst (v := (3 : Int32)) hx hb ddX5_addRations_53 (by decide) ?_
      refine lv_dup2_11 hx hb ddX5_addRations_54 rfl rfl ?_
      refine aldk_26 hx hb hK hS 3 (by unfold vp_in; decide) rfl ddX5_addRations_55 ?_
      refine lv_iload_n hx hb ddX5_addRations_56 rfl (lv_at hl 1 rfl) ?_
      refine lv_iadd hx hb ddX5_addRations_57 ?_
      refine astk_26 hx hb hK hS 3 (by unfold vp_in; decide) rfl ddX5_addRations_58 (fun H locs hS => ?_)
      obtain ⟨σ9, eσ9⟩ : ∃ y : Mem, y = (st σ8 26 3 ((σ8 26 3) + x1)) := ⟨_, rfl⟩
      rw [← eσ9] at hS
      replace h := h σ9 eσ9
      refine lv_aload_n hx hb ddX5_addRations_59 rfl (lv_at hl 0 rfl) ?_
      refine get_25_0 hx hb hown ht hK hS lk1124 ddX5_addRations_60 ?_
      refine lv_iconst (v := (3 : Int32)) hx hb ddX5_addRations_63 (by decide) ?_
      refine aldk_26 hx hb hK hS 3 (by unfold vp_in; decide) rfl ddX5_addRations_64 ?_
      exact k_iret hx hb hr hlocks hK hS h ddX5_addRations_65
    · replace h := h.2 c7
      refine lv_iconst (v := (0 : Int32)) hx hb ddX5_addRations_39 (by decide) ?_
      exact k_iret hx hb hr hlocks hK hS h ddX5_addRations_40
  unfold wp_X5_addRations at h
  refine lv_aload_n hx hb ddX5_addRations_0 rfl (lv_at hl 0 rfl) ?_
  refine lv_iload_n hx hb ddX5_addRations_1 rfl (lv_at hl 1 rfl) ?_
  refine lv_iconst (v := (1 : Int32)) hx hb ddX5_addRations_2 (by decide) ?_
  refine lv_bipush (v := (50 : Int32)) hx hb ddX5_addRations_3 (by decide) ?_
  refine k_SI (As := [.int x1, .int (1 : Int32), .int (50 : Int32)]) (rest := [.ref (ga X 25)]) (c_X5_in l X h) mf_X5_in lk1196 hx hb hml hown ht hK hZ hS hA ⟨rfl, rfl⟩ ⟨Nat.le_of_ble_eq_true rfl, Nat.le_of_ble_eq_true rfl⟩ rfl hl.1 rfl (Nat.le_of_ble_eq_true rfl) ⟨Nat.le_of_ble_eq_true rfl, Nat.le_of_ble_eq_true rfl⟩ ddX5_addRations_5 (fun r2 σ1 H locs hS h => ?_)
  refine lv_if_ne (tgt := 15) hx hb ddX5_addRations_8 (by decide) (fun c3 => ?_) (fun c3 => ?_)
  · replace h := h.1 c3
    refine lv_aload_n hx hb ddX5_addRations_15 rfl (lv_at hl 0 rfl) ?_
    refine get_25_0 hx hb hown ht hK hS lk1124 ddX5_addRations_16 ?_
    refine lv_iconst (v := (3 : Int32)) hx hb ddX5_addRations_19 (by decide) ?_
    refine aldk_26 hx hb hK hS 3 (by unfold vp_in; decide) rfl ddX5_addRations_20 ?_
    refine lv_iload_n hx hb ddX5_addRations_21 rfl (lv_at hl 1 rfl) ?_
    refine lv_iadd hx hb ddX5_addRations_22 ?_
    refine lv_bipush (v := (99 : Int32)) hx hb ddX5_addRations_23 (by decide) ?_
    refine lv_icmp_le (tgt := 32) hx hb ddX5_addRations_25 (by decide) (fun c4 => ?_) (fun c4 => ?_)
    · replace h := h.1 c4
      refine lv_iconst (v := (0 : Int32)) hx hb ddX5_addRations_32 (by decide) ?_
      exact hJ33 _ _ _ _ _ _ hS (lv_sub hl [0, 1] rfl) h
    · replace h := h.2 c4
      refine lv_iconst (v := (2 : Int32)) hx hb ddX5_addRations_28 (by decide) ?_
      refine lv_goto (tgt := 33) hx hb ddX5_addRations_29 (by decide) ?_
      exact hJ33 _ _ _ _ _ _ hS (lv_sub hl [0, 1] rfl) h
  · replace h := h.2 c3
    refine lv_iconst (v := (1 : Int32)) hx hb ddX5_addRations_11 (by decide) ?_
    refine lv_goto (tgt := 33) hx hb ddX5_addRations_12 (by decide) ?_
    exact hJ33 _ _ _ _ _ _ hS (lv_sub hl [0, 1] rfl) h

set_option maxHeartbeats 4000000 in
set_option maxRecDepth 100000 in
theorem c_X5_goes (l : Launch) (X : GX) {σ : Mem} {K : Int32 → Mem → Prop} (h : wp_X5_goes σ K) : MI l X yX5_goes cX5_goes 4 ((Option.some Jvm.ClassFile.FieldType.int)) ({ frames := 1, cells := 0, slots := 0, locals := 22 } : Room) [.ref (ga X 25)] σ K := by
  refine ent_met (QQ := fun A => va_Qi K (BW X A) A) (by decide) (Nat.le_of_ble_eq_true rfl) ?_
  intro p e s m args below meth c A ls hx hb hr hlocks hml hown ht hK hZ hA hS hl
  have hown : s.vm.findClass "GuardRosterModel" = some m.cls := hown
  have hl : lv_has ls 4 [(0, .ref (ga X 25))] := hl
  have hJ81 : ∀ (x1 : Int32) (σ : Mem) (H : Heap) (locs : List Loc) (ls : Array Slot), WS X A s.heap σ H locs → lv_has ls 4 [(0, .ref (ga X 25)), (1, .int x1)] → wpJ_X5_goes_81 K x1 σ → WI X K p l e ({ frames := 1, cells := 0, slots := 0, locals := 22 } : Room) s m args below meth c A H locs (F0 m 81 ls []) := by
    intro x1 σ H locs ls hS hl h
    unfold wpJ_X5_goes_81 at h
    refine lv_aload_n hx hb ddX5_goes_81 rfl (lv_at hl 0 rfl) ?_
    refine get_25_0 hx hb hown ht hK hS lk1124 ddX5_goes_82 ?_
    refine lv_iconst (v := (2 : Int32)) hx hb ddX5_goes_85 (by decide) ?_
    refine lv_dup2_11 hx hb ddX5_goes_86 rfl rfl ?_
    refine aldk_26 hx hb hK hS 2 (by unfold vp_in; decide) rfl ddX5_goes_87 ?_
    refine lv_iconst (v := (1 : Int32)) hx hb ddX5_goes_88 (by decide) ?_
    refine lv_iadd hx hb ddX5_goes_89 ?_
    refine astk_26 hx hb hK hS 2 (by unfold vp_in; decide) rfl ddX5_goes_90 (fun H locs hS => ?_)
    obtain ⟨σ2, eσ2⟩ : ∃ y : Mem, y = (st σ 26 2 ((σ 26 2) + (1 : Int32))) := ⟨_, rfl⟩
    rw [← eσ2] at hS
    replace h := h σ2 eσ2
    refine lv_iload_n hx hb ddX5_goes_91 rfl (lv_at hl 1 rfl) ?_
    exact k_iret hx hb hr hlocks hK hS h ddX5_goes_92
  have hL4 : ∀ (n : Nat) (x1 x2 : Int32) (σ : Mem) (H : Heap) (locs : List Loc) (ls : Array Slot), WS X A s.heap σ H locs → lv_has ls 4 [(0, .ref (ga X 25)), (1, .int x1), (2, .int x2)] → wlp (wpF_X5_goes_4 K) n (x1, x2, σ) → WI X K p l e ({ frames := 1, cells := 0, slots := 0, locals := 22 } : Room) s m args below meth c A H locs (F0 m 4 ls []) := by
    intro n4
    induction n4 with
    | zero => intro x1 x2 σ H locs ls hS hl h; exact h.elim
    | succ n4 ih4 =>
      have hJ75 : ∀ (x1 x2 : Int32) (σ : Mem) (H : Heap) (locs : List Loc) (ls : Array Slot), WS X A s.heap σ H locs → lv_has ls 4 [(0, .ref (ga X 25)), (1, .int x1), (2, .int x2)] → wpJ_X5_goes_75 K (wlp (wpF_X5_goes_4 K) n4) x1 x2 σ → WI X K p l e ({ frames := 1, cells := 0, slots := 0, locals := 22 } : Room) s m args below meth c A H locs (F0 m 75 ls []) := by
        intro x1 x2 σ H locs ls hS hl h
        unfold wpJ_X5_goes_75 at h
        obtain ⟨v9, ev9⟩ : ∃ y : Int32, y = x2 + (1 : Int32) := ⟨_, rfl⟩
        replace h := h v9 ev9
        refine lv_iinc (v := v9) (lv' := [(2, .int v9), (0, .ref (ga X 25)), (1, .int x1)]) hx hb ddX5_goes_75 hl (k := 2) rfl (by rw [ev9]; rfl) (by decide) rfl (fun ls hl => ?_)
        refine lv_goto (tgt := 4) hx hb ddX5_goes_78 (by decide) ?_
        exact ih4 _ _ _ _ _ _ hS (lv_sub hl [1, 2, 0] rfl) h
      intro x1 x2 σ H locs ls hS hl h
      replace h : wpS_X5_goes_4 K (wlp (wpF_X5_goes_4 K) n4) x1 x2 σ := h
      unfold wpS_X5_goes_4 at h
      refine lv_iload_n hx hb ddX5_goes_4 rfl (lv_at hl 2 rfl) ?_
      refine lv_aload_n hx hb ddX5_goes_5 rfl (lv_at hl 0 rfl) ?_
      refine get_25_0 hx hb hown ht hK hS lk1124 ddX5_goes_6 ?_
      refine lv_iconst (v := (0 : Int32)) hx hb ddX5_goes_9 (by decide) ?_
      refine aldk_26 hx hb hK hS 0 (by unfold vp_in; decide) rfl ddX5_goes_10 ?_
      refine lv_icmp_ge (tgt := 81) hx hb ddX5_goes_11 (by decide) (fun c1 => ?_) (fun c1 => ?_)
      · replace h := h.1 c1
        exact hJ81 _ _ _ _ _ hS (lv_sub hl [0, 1] rfl) h
      · replace h := h.2 c1
        refine lv_aload_n hx hb ddX5_goes_14 rfl (lv_at hl 0 rfl) ?_
        refine lv_iload_n hx hb ddX5_goes_15 rfl (lv_at hl 2 rfl) ?_
        refine lv_aload_n hx hb ddX5_goes_16 rfl (lv_at hl 0 rfl) ?_
        refine get_25_0 hx hb hown ht hK hS lk1124 ddX5_goes_17 ?_
        refine lv_iconst (v := (2 : Int32)) hx hb ddX5_goes_20 (by decide) ?_
        refine aldk_26 hx hb hK hS 2 (by unfold vp_in; decide) rfl ddX5_goes_21 ?_
        refine k_VI (As := [.int x2, .int (σ 26 2)]) (rest := []) (c_X5_who l X h) mf_X5_who lk1269 hx hb hml hown ht hK hZ hS hA 25 5 rfl rfl rfl ⟨rfl, rfl⟩ ⟨Nat.le_of_ble_eq_true rfl, Nat.le_of_ble_eq_true rfl⟩ rfl hl.1 rfl (Nat.le_of_ble_eq_true rfl) ⟨Nat.le_of_ble_eq_true rfl, Nat.le_of_ble_eq_true rfl⟩ ddX5_goes_22 (fun r4 σ3 H locs hS h => ?_)
        refine lv_istore_n (lv' := [(3, .int r4), (0, .ref (ga X 25)), (1, .int x1), (2, .int x2)]) hx hb ddX5_goes_25 rfl hl (by decide) rfl (fun ls hl => ?_)
        refine lv_iload_n hx hb ddX5_goes_26 rfl (lv_at hl 0 rfl) ?_
        refine lv_if_ge (tgt := 33) hx hb ddX5_goes_27 (by decide) (fun c5 => ?_) (fun c5 => ?_)
        · replace h := h.1 c5
          refine lv_aload_n hx hb ddX5_goes_33 rfl (lv_at hl 1 rfl) ?_
          refine get_25_0 hx hb hown ht hK hS lk1124 ddX5_goes_34 ?_
          refine lv_iconst (v := (3 : Int32)) hx hb ddX5_goes_37 (by decide) ?_
          refine aldk_26 hx hb hK hS 3 (by unfold vp_in; decide) rfl ddX5_goes_38 ?_
          refine lv_if_le (tgt := 55) hx hb ddX5_goes_39 (by decide) (fun c6 => ?_) (fun c6 => ?_)
          · replace h := h.1 c6
            refine lv_aload_n hx hb ddX5_goes_55 rfl (lv_at hl 1 rfl) ?_
            refine get_25_0 hx hb hown ht hK hS lk1124 ddX5_goes_56 ?_
            refine lv_bipush (v := (9 : Int32)) hx hb ddX5_goes_59 (by decide) ?_
            refine lv_iconst (v := (2 : Int32)) hx hb ddX5_goes_61 (by decide) ?_
            refine lv_iload_n hx hb ddX5_goes_62 rfl (lv_at hl 0 rfl) ?_
            refine lv_imul hx hb ddX5_goes_63 ?_
            refine lv_iadd hx hb ddX5_goes_64 ?_
            refine lv_iconst (v := (1 : Int32)) hx hb ddX5_goes_65 (by decide) ?_
            refine lv_iadd hx hb ddX5_goes_66 ?_
            refine lv_dup2_11 hx hb ddX5_goes_67 rfl rfl ?_
            refine ald_26 hx hb hK hS h.1 ddX5_goes_68 ?_
            replace h := h.2
            refine lv_iconst (v := (1 : Int32)) hx hb ddX5_goes_69 (by decide) ?_
            refine lv_iadd hx hb ddX5_goes_70 ?_
            refine ast_26 hx hb hK hS h.1 ddX5_goes_71 (fun H locs hS => ?_)
            replace h := h.2
            obtain ⟨σ7, eσ7⟩ : ∃ y : Mem, y = (st σ3 26 (((9 : Int32) + ((2 : Int32) * r4)) + (1 : Int32)).toNatClampNeg ((σ3 26 (((9 : Int32) + ((2 : Int32) * r4)) + (1 : Int32)).toNatClampNeg) + (1 : Int32))) := ⟨_, rfl⟩
            rw [← eσ7] at hS
            replace h := h σ7 eσ7
            obtain ⟨v8, ev8⟩ : ∃ y : Int32, y = x1 + (1 : Int32) := ⟨_, rfl⟩
            replace h := h v8 ev8
            refine lv_iinc (v := v8) (lv' := [(1, .int v8), (3, .int r4), (0, .ref (ga X 25)), (2, .int x2)]) hx hb ddX5_goes_72 hl (k := 2) rfl (by rw [ev8]; rfl) (by decide) rfl (fun ls hl => ?_)
            exact hJ75 _ _ _ _ _ _ hS (lv_sub hl [2, 0, 3] rfl) h
          · replace h := h.2 c6
            refine lv_aload_n hx hb ddX5_goes_42 rfl (lv_at hl 1 rfl) ?_
            refine get_25_0 hx hb hown ht hK hS lk1124 ddX5_goes_43 ?_
            refine lv_iconst (v := (3 : Int32)) hx hb ddX5_goes_46 (by decide) ?_
            refine lv_dup2_11 hx hb ddX5_goes_47 rfl rfl ?_
            refine aldk_26 hx hb hK hS 3 (by unfold vp_in; decide) rfl ddX5_goes_48 ?_
            refine lv_iconst (v := (1 : Int32)) hx hb ddX5_goes_49 (by decide) ?_
            refine lv_isub hx hb ddX5_goes_50 ?_
            refine astk_26 hx hb hK hS 3 (by unfold vp_in; decide) rfl ddX5_goes_51 (fun H locs hS => ?_)
            obtain ⟨σ10, eσ10⟩ : ∃ y : Mem, y = (st σ3 26 3 ((σ3 26 3) - (1 : Int32))) := ⟨_, rfl⟩
            rw [← eσ10] at hS
            replace h := h σ10 eσ10
            refine lv_goto (tgt := 75) hx hb ddX5_goes_52 (by decide) ?_
            exact hJ75 _ _ _ _ _ _ hS (lv_sub hl [1, 2, 3] rfl) h
        · replace h := h.2 c5
          refine lv_goto (tgt := 75) hx hb ddX5_goes_30 (by decide) ?_
          exact hJ75 _ _ _ _ _ _ hS (lv_sub hl [1, 2, 3] rfl) h
  unfold wp_X5_goes at h
  refine lv_iconst (v := (0 : Int32)) hx hb ddX5_goes_0 (by decide) ?_
  refine lv_istore_n (lv' := [(1, .int (0 : Int32)), (0, .ref (ga X 25))]) hx hb ddX5_goes_1 rfl hl (by decide) rfl (fun ls hl => ?_)
  refine lv_iconst (v := (0 : Int32)) hx hb ddX5_goes_2 (by decide) ?_
  refine lv_istore_n (lv' := [(2, .int (0 : Int32)), (1, .int (0 : Int32)), (0, .ref (ga X 25))]) hx hb ddX5_goes_3 rfl hl (by decide) rfl (fun ls hl => ?_)
  obtain ⟨n, h⟩ := h
  exact hL4 n _ _ _ _ _ _ hS (lv_sub hl [2, 1, 0] rfl) h

set_option maxHeartbeats 4000000 in
set_option maxRecDepth 100000 in
theorem c_X5_passSlots (l : Launch) (X : GX) {x1 : Int32} {σ : Mem} {K : Int32 → Mem → Prop} (h : wp_X5_passSlots x1 σ K) : MI l X yX5_passSlots cX5_passSlots 4 ((Option.some Jvm.ClassFile.FieldType.int)) ({ frames := 2, cells := 0, slots := 0, locals := 46 } : Room) [.ref (ga X 25), .int x1] σ K := by
  refine ent_met (QQ := fun A => va_Qi K (BW X A) A) (by decide) (Nat.le_of_ble_eq_true rfl) ?_
  intro p e s m args below meth c A ls hx hb hr hlocks hml hown ht hK hZ hA hS hl
  have hown : s.vm.findClass "GuardRosterModel" = some m.cls := hown
  have hl : lv_has ls 4 [(0, .ref (ga X 25)), (1, .int x1)] := hl
  have hL53 : ∀ (n : Nat) (x1 x2 x3 : Int32) (σ : Mem) (H : Heap) (locs : List Loc) (ls : Array Slot), WS X A s.heap σ H locs → lv_has ls 4 [(0, .ref (ga X 25)), (1, .int x1), (2, .int x2), (3, .int x3)] → wlp (wpF_X5_passSlots_53 K) n (x1, x2, x3, σ) → WI X K p l e ({ frames := 2, cells := 0, slots := 0, locals := 46 } : Room) s m args below meth c A H locs (F0 m 53 ls []) := by
    intro n53
    induction n53 with
    | zero => intro x1 x2 x3 σ H locs ls hS hl h; exact h.elim
    | succ n53 ih53 =>
      intro x1 x2 x3 σ H locs ls hS hl h
      replace h : wpS_X5_passSlots_53 K (wlp (wpF_X5_passSlots_53 K) n53) x1 x2 x3 σ := h
      unfold wpS_X5_passSlots_53 at h
      refine lv_iload_n hx hb ddX5_passSlots_53 rfl (lv_at hl 3 rfl) ?_
      refine lv_iload_n hx hb ddX5_passSlots_54 rfl (lv_at hl 1 rfl) ?_
      refine lv_icmp_ge (tgt := 71) hx hb ddX5_passSlots_55 (by decide) (fun c9 => ?_) (fun c9 => ?_)
      · replace h := h.1 c9
        refine lv_iload_n hx hb ddX5_passSlots_71 rfl (lv_at hl 2 rfl) ?_
        exact k_iret hx hb hr hlocks hK hS h ddX5_passSlots_72
      · replace h := h.2 c9
        refine lv_iload_n hx hb ddX5_passSlots_58 rfl (lv_at hl 2 rfl) ?_
        refine lv_aload_n hx hb ddX5_passSlots_59 rfl (lv_at hl 0 rfl) ?_
        refine k_VI (As := []) (rest := [.int x2]) (c_X5_goes l X h) mf_X5_goes lk1412 hx hb hml hown ht hK hZ hS hA 25 5 rfl rfl rfl ⟨rfl, rfl⟩ ⟨Nat.le_of_ble_eq_true rfl, Nat.le_of_ble_eq_true rfl⟩ rfl hl.1 rfl (Nat.le_of_ble_eq_true rfl) ⟨Nat.le_of_ble_eq_true rfl, Nat.le_of_ble_eq_true rfl⟩ ddX5_passSlots_60 (fun r11 σ10 H locs hS h => ?_)
        refine lv_iadd hx hb ddX5_passSlots_63 ?_
        refine lv_topi (fun v12 ev12 => ?_)
        replace h := h v12 ev12
        refine lv_istore_n (lv' := [(2, .int v12), (0, .ref (ga X 25)), (1, .int x1), (3, .int x3)]) hx hb ddX5_passSlots_64 rfl hl (by decide) rfl (fun ls hl => ?_)
        obtain ⟨v13, ev13⟩ : ∃ y : Int32, y = x3 + (1 : Int32) := ⟨_, rfl⟩
        replace h := h v13 ev13
        refine lv_iinc (v := v13) (lv' := [(3, .int v13), (2, .int v12), (0, .ref (ga X 25)), (1, .int x1)]) hx hb ddX5_passSlots_65 hl (k := 3) rfl (by rw [ev13]; rfl) (by decide) rfl (fun ls hl => ?_)
        refine lv_goto (tgt := 53) hx hb ddX5_passSlots_68 (by decide) ?_
        exact ih53 _ _ _ _ _ _ _ hS (lv_sub hl [2, 3, 1, 0] rfl) h
  have hJ33 : ∀ (x1 y1 : Int32) (σ : Mem) (H : Heap) (locs : List Loc) (ls : Array Slot), WS X A s.heap σ H locs → lv_has ls 4 [(0, .ref (ga X 25)), (1, .int x1)] → wpJ_X5_passSlots_33 K x1 y1 σ → WI X K p l e ({ frames := 2, cells := 0, slots := 0, locals := 46 } : Room) s m args below meth c A H locs (F0 m 33 ls [.int y1, .ref (ga X 25)]) := by
    intro x1 y1 σ H locs ls hS hl h
    unfold wpJ_X5_passSlots_33 at h
    refine k_VI (As := [.int y1]) (rest := []) (c_X5_fails l X h) mf_X5_fails lk1199 hx hb hml hown ht hK hZ hS hA 25 5 rfl rfl rfl ⟨rfl, rfl⟩ ⟨Nat.le_of_ble_eq_true rfl, Nat.le_of_ble_eq_true rfl⟩ rfl hl.1 rfl (Nat.le_of_ble_eq_true rfl) ⟨Nat.le_of_ble_eq_true rfl, Nat.le_of_ble_eq_true rfl⟩ ddX5_passSlots_33 (fun r6 σ5 H locs hS h => ?_)
    refine lv_if_eq (tgt := 41) hx hb ddX5_passSlots_36 (by decide) (fun c7 => ?_) (fun c7 => ?_)
    · replace h := h.1 c7
      refine lv_aload_n hx hb ddX5_passSlots_41 rfl (lv_at hl 0 rfl) ?_
      refine lv_aload_n hx hb ddX5_passSlots_42 rfl (lv_at hl 0 rfl) ?_
      refine get_25_0 hx hb hown ht hK hS lk1124 ddX5_passSlots_43 ?_
      refine k_VV (As := [.ref (ga X 26)]) (rest := []) (c_X5_keeps_26 l X h) mf_X5_keeps lk1203 hx hb hml hown ht hK hZ hS hA 25 5 rfl rfl rfl ⟨rfl, rfl⟩ ⟨Nat.le_of_ble_eq_true rfl, Nat.le_of_ble_eq_true rfl⟩ rfl hl.1 rfl (Nat.le_of_ble_eq_true rfl) ⟨Nat.le_of_ble_eq_true rfl, Nat.le_of_ble_eq_true rfl⟩ ddX5_passSlots_46 (fun σ8 H locs hS h => ?_)
      refine lv_iconst (v := (0 : Int32)) hx hb ddX5_passSlots_49 (by decide) ?_
      refine lv_istore_n (lv' := [(2, .int (0 : Int32)), (0, .ref (ga X 25)), (1, .int x1)]) hx hb ddX5_passSlots_50 rfl hl (by decide) rfl (fun ls hl => ?_)
      refine lv_iconst (v := (0 : Int32)) hx hb ddX5_passSlots_51 (by decide) ?_
      refine lv_istore_n (lv' := [(3, .int (0 : Int32)), (2, .int (0 : Int32)), (0, .ref (ga X 25)), (1, .int x1)]) hx hb ddX5_passSlots_52 rfl hl (by decide) rfl (fun ls hl => ?_)
      obtain ⟨n, h⟩ := h
      exact hL53 n _ _ _ _ _ _ _ hS (lv_sub hl [2, 3, 1, 0] rfl) h
    · replace h := h.2 c7
      refine lv_iconst (v := (0 : Int32)) hx hb ddX5_passSlots_39 (by decide) ?_
      exact k_iret hx hb hr hlocks hK hS h ddX5_passSlots_40
  unfold wp_X5_passSlots at h
  refine lv_aload_n hx hb ddX5_passSlots_0 rfl (lv_at hl 0 rfl) ?_
  refine lv_iload_n hx hb ddX5_passSlots_1 rfl (lv_at hl 1 rfl) ?_
  refine lv_iconst (v := (1 : Int32)) hx hb ddX5_passSlots_2 (by decide) ?_
  refine lv_bipush (v := (28 : Int32)) hx hb ddX5_passSlots_3 (by decide) ?_
  refine k_SI (As := [.int x1, .int (1 : Int32), .int (28 : Int32)]) (rest := [.ref (ga X 25)]) (c_X5_in l X h) mf_X5_in lk1196 hx hb hml hown ht hK hZ hS hA ⟨rfl, rfl⟩ ⟨Nat.le_of_ble_eq_true rfl, Nat.le_of_ble_eq_true rfl⟩ rfl hl.1 rfl (Nat.le_of_ble_eq_true rfl) ⟨Nat.le_of_ble_eq_true rfl, Nat.le_of_ble_eq_true rfl⟩ ddX5_passSlots_5 (fun r2 σ1 H locs hS h => ?_)
  refine lv_if_ne (tgt := 15) hx hb ddX5_passSlots_8 (by decide) (fun c3 => ?_) (fun c3 => ?_)
  · replace h := h.1 c3
    refine lv_iload_n hx hb ddX5_passSlots_15 rfl (lv_at hl 1 rfl) ?_
    refine lv_bipush (v := (28 : Int32)) hx hb ddX5_passSlots_16 (by decide) ?_
    refine lv_aload_n hx hb ddX5_passSlots_18 rfl (lv_at hl 0 rfl) ?_
    refine get_25_0 hx hb hown ht hK hS lk1124 ddX5_passSlots_19 ?_
    refine lv_iconst (v := (2 : Int32)) hx hb ddX5_passSlots_22 (by decide) ?_
    refine aldk_26 hx hb hK hS 2 (by unfold vp_in; decide) rfl ddX5_passSlots_23 ?_
    refine lv_isub hx hb ddX5_passSlots_24 ?_
    refine lv_icmp_le (tgt := 32) hx hb ddX5_passSlots_25 (by decide) (fun c4 => ?_) (fun c4 => ?_)
    · replace h := h.1 c4
      refine lv_iconst (v := (0 : Int32)) hx hb ddX5_passSlots_32 (by decide) ?_
      exact hJ33 _ _ _ _ _ _ hS (lv_sub hl [0, 1] rfl) h
    · replace h := h.2 c4
      refine lv_iconst (v := (2 : Int32)) hx hb ddX5_passSlots_28 (by decide) ?_
      refine lv_goto (tgt := 33) hx hb ddX5_passSlots_29 (by decide) ?_
      exact hJ33 _ _ _ _ _ _ hS (lv_sub hl [0, 1] rfl) h
  · replace h := h.2 c3
    refine lv_iconst (v := (1 : Int32)) hx hb ddX5_passSlots_11 (by decide) ?_
    refine lv_goto (tgt := 33) hx hb ddX5_passSlots_12 (by decide) ?_
    exact hJ33 _ _ _ _ _ _ hS (lv_sub hl [0, 1] rfl) h

set_option maxHeartbeats 4000000 in
set_option maxRecDepth 100000 in
theorem c_X5_rations (l : Launch) (X : GX) {σ : Mem} {K : Int32 → Mem → Prop} (h : wp_X5_rations σ K) : MI l X yX5_rations cX5_rations 1 ((Option.some Jvm.ClassFile.FieldType.int)) ({ frames := 0, cells := 0, slots := 0, locals := 0 } : Room) [.ref (ga X 25)] σ K := by
  refine ent_met (QQ := fun A => va_Qi K (BW X A) A) (by decide) (Nat.le_of_ble_eq_true rfl) ?_
  intro p e s m args below meth c A ls hx hb hr hlocks hml hown ht hK hZ hA hS hl
  have hown : s.vm.findClass "GuardRosterModel" = some m.cls := hown
  have hl : lv_has ls 1 [(0, .ref (ga X 25))] := hl
  unfold wp_X5_rations at h
  refine lv_aload_n hx hb ddX5_rations_0 rfl (lv_at hl 0 rfl) ?_
  refine lv_iconst (v := (0 : Int32)) hx hb ddX5_rations_1 (by decide) ?_
  refine put_25_7 hx hb hown ht hK hS lk1131 ddX5_rations_2 (fun H locs hS => ?_)
  obtain ⟨σ1, eσ1⟩ : ∃ y : Mem, y = (st σ 25 7 (0 : Int32)) := ⟨_, rfl⟩
  rw [← eσ1] at hS
  replace h := h σ1 eσ1
  refine lv_aload_n hx hb ddX5_rations_5 rfl (lv_at hl 0 rfl) ?_
  refine get_25_0 hx hb hown ht hK hS lk1124 ddX5_rations_6 ?_
  refine lv_iconst (v := (3 : Int32)) hx hb ddX5_rations_9 (by decide) ?_
  refine aldk_26 hx hb hK hS 3 (by unfold vp_in; decide) rfl ddX5_rations_10 ?_
  exact k_iret hx hb hr hlocks hK hS h ddX5_rations_11

set_option maxHeartbeats 4000000 in
set_option maxRecDepth 100000 in
theorem c_X5_currentSlot (l : Launch) (X : GX) {σ : Mem} {K : Int32 → Mem → Prop} (h : wp_X5_currentSlot σ K) : MI l X yX5_currentSlot cX5_currentSlot 1 ((Option.some Jvm.ClassFile.FieldType.int)) ({ frames := 0, cells := 0, slots := 0, locals := 0 } : Room) [.ref (ga X 25)] σ K := by
  refine ent_met (QQ := fun A => va_Qi K (BW X A) A) (by decide) (Nat.le_of_ble_eq_true rfl) ?_
  intro p e s m args below meth c A ls hx hb hr hlocks hml hown ht hK hZ hA hS hl
  have hown : s.vm.findClass "GuardRosterModel" = some m.cls := hown
  have hl : lv_has ls 1 [(0, .ref (ga X 25))] := hl
  unfold wp_X5_currentSlot at h
  refine lv_aload_n hx hb ddX5_currentSlot_0 rfl (lv_at hl 0 rfl) ?_
  refine lv_iconst (v := (0 : Int32)) hx hb ddX5_currentSlot_1 (by decide) ?_
  refine put_25_7 hx hb hown ht hK hS lk1131 ddX5_currentSlot_2 (fun H locs hS => ?_)
  obtain ⟨σ1, eσ1⟩ : ∃ y : Mem, y = (st σ 25 7 (0 : Int32)) := ⟨_, rfl⟩
  rw [← eσ1] at hS
  replace h := h σ1 eσ1
  refine lv_aload_n hx hb ddX5_currentSlot_5 rfl (lv_at hl 0 rfl) ?_
  refine get_25_0 hx hb hown ht hK hS lk1124 ddX5_currentSlot_6 ?_
  refine lv_iconst (v := (2 : Int32)) hx hb ddX5_currentSlot_9 (by decide) ?_
  refine aldk_26 hx hb hK hS 2 (by unfold vp_in; decide) rfl ddX5_currentSlot_10 ?_
  exact k_iret hx hb hr hlocks hK hS h ddX5_currentSlot_11

set_option maxHeartbeats 4000000 in
set_option maxRecDepth 100000 in
theorem c_X5_missingRations (l : Launch) (X : GX) {σ : Mem} {K : Int32 → Mem → Prop} (h : wp_X5_missingRations σ K) : MI l X yX5_missingRations cX5_missingRations 3 ((Option.some Jvm.ClassFile.FieldType.int)) ({ frames := 2, cells := 0, slots := 0, locals := 45 } : Room) [.ref (ga X 25)] σ K := by
  refine ent_met (QQ := fun A => va_Qi K (BW X A) A) (by decide) (Nat.le_of_ble_eq_true rfl) ?_
  intro p e s m args below meth c A ls hx hb hr hlocks hml hown ht hK hZ hA hS hl
  have hown : s.vm.findClass "GuardRosterModel" = some m.cls := hown
  have hl : lv_has ls 3 [(0, .ref (ga X 25))] := hl
  have hJ41 : ∀ (x1 : Int32) (σ : Mem) (H : Heap) (locs : List Loc) (ls : Array Slot), WS X A s.heap σ H locs → lv_has ls 3 [(0, .ref (ga X 25)), (1, .int x1)] → wpJ_X5_missingRations_41 K x1 σ → WI X K p l e ({ frames := 2, cells := 0, slots := 0, locals := 45 } : Room) s m args below meth c A H locs (F0 m 41 ls []) := by
    intro x1 σ H locs ls hS hl h
    unfold wpJ_X5_missingRations_41 at h
    refine lv_iload_n hx hb ddX5_missingRations_41 rfl (lv_at hl 1 rfl) ?_
    refine lv_aload_n hx hb ddX5_missingRations_42 rfl (lv_at hl 0 rfl) ?_
    refine get_25_0 hx hb hown ht hK hS lk1124 ddX5_missingRations_43 ?_
    refine lv_iconst (v := (3 : Int32)) hx hb ddX5_missingRations_46 (by decide) ?_
    refine aldk_26 hx hb hK hS 3 (by unfold vp_in; decide) rfl ddX5_missingRations_47 ?_
    refine lv_icmp_le (tgt := 62) hx hb ddX5_missingRations_48 (by decide) (fun c4 => ?_) (fun c4 => ?_)
    · replace h := h.1 c4
      refine lv_iconst (v := (0 : Int32)) hx hb ddX5_missingRations_62 (by decide) ?_
      exact k_iret hx hb hr hlocks hK hS h ddX5_missingRations_63
    · replace h := h.2 c4
      refine lv_iload_n hx hb ddX5_missingRations_51 rfl (lv_at hl 1 rfl) ?_
      refine lv_aload_n hx hb ddX5_missingRations_52 rfl (lv_at hl 0 rfl) ?_
      refine get_25_0 hx hb hown ht hK hS lk1124 ddX5_missingRations_53 ?_
      refine lv_iconst (v := (3 : Int32)) hx hb ddX5_missingRations_56 (by decide) ?_
      refine aldk_26 hx hb hK hS 3 (by unfold vp_in; decide) rfl ddX5_missingRations_57 ?_
      refine lv_isub hx hb ddX5_missingRations_58 ?_
      refine lv_goto (tgt := 63) hx hb ddX5_missingRations_59 (by decide) ?_
      exact k_iret hx hb hr hlocks hK hS h ddX5_missingRations_63
  have hL14 : ∀ (n : Nat) (x1 x2 : Int32) (σ : Mem) (H : Heap) (locs : List Loc) (ls : Array Slot), WS X A s.heap σ H locs → lv_has ls 3 [(0, .ref (ga X 25)), (1, .int x1), (2, .int x2)] → wlp (wpF_X5_missingRations_14 K) n (x1, x2, σ) → WI X K p l e ({ frames := 2, cells := 0, slots := 0, locals := 45 } : Room) s m args below meth c A H locs (F0 m 14 ls []) := by
    intro n14
    induction n14 with
    | zero => intro x1 x2 σ H locs ls hS hl h; exact h.elim
    | succ n14 ih14 =>
      intro x1 x2 σ H locs ls hS hl h
      replace h : wpS_X5_missingRations_14 K (wlp (wpF_X5_missingRations_14 K) n14) x1 x2 σ := h
      unfold wpS_X5_missingRations_14 at h
      refine lv_iload_n hx hb ddX5_missingRations_14 rfl (lv_at hl 2 rfl) ?_
      refine lv_bipush (v := (28 : Int32)) hx hb ddX5_missingRations_15 (by decide) ?_
      refine lv_icmp_ge (tgt := 41) hx hb ddX5_missingRations_17 (by decide) (fun c3 => ?_) (fun c3 => ?_)
      · replace h := h.1 c3
        exact hJ41 _ _ _ _ _ hS (lv_sub hl [0, 1] rfl) h
      · replace h := h.2 c3
        refine lv_iload_n hx hb ddX5_missingRations_20 rfl (lv_at hl 1 rfl) ?_
        refine lv_aload_n hx hb ddX5_missingRations_21 rfl (lv_at hl 0 rfl) ?_
        refine get_25_0 hx hb hown ht hK hS lk1124 ddX5_missingRations_22 ?_
        refine lv_iconst (v := (0 : Int32)) hx hb ddX5_missingRations_25 (by decide) ?_
        refine aldk_26 hx hb hK hS 0 (by unfold vp_in; decide) rfl ddX5_missingRations_26 ?_
        refine lv_aload_n hx hb ddX5_missingRations_27 rfl (lv_at hl 0 rfl) ?_
        refine lv_iload_n hx hb ddX5_missingRations_28 rfl (lv_at hl 2 rfl) ?_
        refine k_VI (As := [.int x2]) (rest := [.int (σ 26 0), .int x1]) (c_X5_open l X h) mf_X5_open lk1341 hx hb hml hown ht hK hZ hS hA 25 5 rfl rfl rfl ⟨rfl, rfl⟩ ⟨Nat.le_of_ble_eq_true rfl, Nat.le_of_ble_eq_true rfl⟩ rfl hl.1 rfl (Nat.le_of_ble_eq_true rfl) ⟨Nat.le_of_ble_eq_true rfl, Nat.le_of_ble_eq_true rfl⟩ ddX5_missingRations_29 (fun r6 σ5 H locs hS h => ?_)
        refine lv_isub hx hb ddX5_missingRations_32 ?_
        refine lv_iadd hx hb ddX5_missingRations_33 ?_
        refine lv_topi (fun v7 ev7 => ?_)
        replace h := h v7 ev7
        refine lv_istore_n (lv' := [(1, .int v7), (0, .ref (ga X 25)), (2, .int x2)]) hx hb ddX5_missingRations_34 rfl hl (by decide) rfl (fun ls hl => ?_)
        obtain ⟨v8, ev8⟩ : ∃ y : Int32, y = x2 + (1 : Int32) := ⟨_, rfl⟩
        replace h := h v8 ev8
        refine lv_iinc (v := v8) (lv' := [(2, .int v8), (1, .int v7), (0, .ref (ga X 25))]) hx hb ddX5_missingRations_35 hl (k := 2) rfl (by rw [ev8]; rfl) (by decide) rfl (fun ls hl => ?_)
        refine lv_goto (tgt := 14) hx hb ddX5_missingRations_38 (by decide) ?_
        exact ih14 _ _ _ _ _ _ hS (lv_sub hl [2, 1, 0] rfl) h
  unfold wp_X5_missingRations at h
  refine lv_aload_n hx hb ddX5_missingRations_0 rfl (lv_at hl 0 rfl) ?_
  refine lv_iconst (v := (0 : Int32)) hx hb ddX5_missingRations_1 (by decide) ?_
  refine put_25_7 hx hb hown ht hK hS lk1131 ddX5_missingRations_2 (fun H locs hS => ?_)
  obtain ⟨σ1, eσ1⟩ : ∃ y : Mem, y = (st σ 25 7 (0 : Int32)) := ⟨_, rfl⟩
  rw [← eσ1] at hS
  replace h := h σ1 eσ1
  refine lv_iconst (v := (0 : Int32)) hx hb ddX5_missingRations_5 (by decide) ?_
  refine lv_istore_n (lv' := [(1, .int (0 : Int32)), (0, .ref (ga X 25))]) hx hb ddX5_missingRations_6 rfl hl (by decide) rfl (fun ls hl => ?_)
  refine lv_aload_n hx hb ddX5_missingRations_7 rfl (lv_at hl 1 rfl) ?_
  refine get_25_0 hx hb hown ht hK hS lk1124 ddX5_missingRations_8 ?_
  refine lv_iconst (v := (2 : Int32)) hx hb ddX5_missingRations_11 (by decide) ?_
  refine aldk_26 hx hb hK hS 2 (by unfold vp_in; decide) rfl ddX5_missingRations_12 ?_
  refine lv_topi (fun v2 ev2 => ?_)
  replace h := h v2 ev2
  refine lv_istore_n (lv' := [(2, .int v2), (1, .int (0 : Int32)), (0, .ref (ga X 25))]) hx hb ddX5_missingRations_13 rfl hl (by decide) rfl (fun ls hl => ?_)
  obtain ⟨n, h⟩ := h
  exact hL14 n _ _ _ _ _ _ hS (lv_sub hl [2, 1, 0] rfl) h

set_option maxHeartbeats 4000000 in
set_option maxRecDepth 100000 in
theorem c_X5_refusalReason (l : Launch) (X : GX) {σ : Mem} {K : Int32 → Mem → Prop} (h : wp_X5_refusalReason σ K) : MI l X yX5_refusalReason cX5_refusalReason 1 ((Option.some Jvm.ClassFile.FieldType.int)) ({ frames := 1, cells := 0, slots := 0, locals := 21 } : Room) [.ref (ga X 25)] σ K := by
  refine ent_met (QQ := fun A => va_Qi K (BW X A) A) (by decide) (Nat.le_of_ble_eq_true rfl) ?_
  intro p e s m args below meth c A ls hx hb hr hlocks hml hown ht hK hZ hA hS hl
  have hown : s.vm.findClass "GuardRosterModel" = some m.cls := hown
  have hl : lv_has ls 1 [(0, .ref (ga X 25))] := hl
  have hJ13 : ∀ (y1 : Int32) (σ : Mem) (H : Heap) (locs : List Loc) (ls : Array Slot), WS X A s.heap σ H locs → lv_has ls 1 [(0, .ref (ga X 25))] → wpJ_X5_refusalReason_13 K y1 σ → WI X K p l e ({ frames := 1, cells := 0, slots := 0, locals := 21 } : Room) s m args below meth c A H locs (F0 m 13 ls [.int y1, .ref (ga X 25)]) := by
    intro y1 σ H locs ls hS hl h
    unfold wpJ_X5_refusalReason_13 at h
    refine k_VI (As := [.int y1]) (rest := []) (c_X5_fails l X h) mf_X5_fails lk1199 hx hb hml hown ht hK hZ hS hA 25 5 rfl rfl rfl ⟨rfl, rfl⟩ ⟨Nat.le_of_ble_eq_true rfl, Nat.le_of_ble_eq_true rfl⟩ rfl hl.1 rfl (Nat.le_of_ble_eq_true rfl) ⟨Nat.le_of_ble_eq_true rfl, Nat.le_of_ble_eq_true rfl⟩ ddX5_refusalReason_13 (fun r3 σ2 H locs hS h => ?_)
    refine lv_if_eq (tgt := 23) hx hb ddX5_refusalReason_16 (by decide) (fun c4 => ?_) (fun c4 => ?_)
    · replace h := h.1 c4
      refine lv_aload_n hx hb ddX5_refusalReason_23 rfl (lv_at hl 0 rfl) ?_
      refine get_25_8 hx hb hown ht hK hS lk1132 ddX5_refusalReason_24 ?_
      exact k_iret hx hb hr hlocks hK hS h ddX5_refusalReason_27
    · replace h := h.2 c4
      refine lv_iconst (v := (0 : Int32)) hx hb ddX5_refusalReason_19 (by decide) ?_
      refine lv_goto (tgt := 27) hx hb ddX5_refusalReason_20 (by decide) ?_
      exact k_iret hx hb hr hlocks hK hS h ddX5_refusalReason_27
  unfold wp_X5_refusalReason at h
  refine lv_aload_n hx hb ddX5_refusalReason_0 rfl (lv_at hl 0 rfl) ?_
  refine lv_aload_n hx hb ddX5_refusalReason_1 rfl (lv_at hl 0 rfl) ?_
  refine get_25_8 hx hb hown ht hK hS lk1132 ddX5_refusalReason_2 ?_
  refine lv_if_ne (tgt := 12) hx hb ddX5_refusalReason_5 (by decide) (fun c1 => ?_) (fun c1 => ?_)
  · replace h := h.1 c1
    refine lv_iconst (v := (0 : Int32)) hx hb ddX5_refusalReason_12 (by decide) ?_
    exact hJ13 _ _ _ _ _ hS (lv_sub hl [0] rfl) h
  · replace h := h.2 c1
    refine lv_iconst (v := (1 : Int32)) hx hb ddX5_refusalReason_8 (by decide) ?_
    refine lv_goto (tgt := 13) hx hb ddX5_refusalReason_9 (by decide) ?_
    exact hJ13 _ _ _ _ _ hS (lv_sub hl [0] rfl) h

set_option maxHeartbeats 4000000 in
set_option maxRecDepth 100000 in
theorem c_X5_refusalDetail (l : Launch) (X : GX) {σ : Mem} {K : Int32 → Mem → Prop} (h : wp_X5_refusalDetail σ K) : MI l X yX5_refusalDetail cX5_refusalDetail 1 ((Option.some Jvm.ClassFile.FieldType.int)) ({ frames := 1, cells := 0, slots := 0, locals := 21 } : Room) [.ref (ga X 25)] σ K := by
  refine ent_met (QQ := fun A => va_Qi K (BW X A) A) (by decide) (Nat.le_of_ble_eq_true rfl) ?_
  intro p e s m args below meth c A ls hx hb hr hlocks hml hown ht hK hZ hA hS hl
  have hown : s.vm.findClass "GuardRosterModel" = some m.cls := hown
  have hl : lv_has ls 1 [(0, .ref (ga X 25))] := hl
  have hJ13 : ∀ (y1 : Int32) (σ : Mem) (H : Heap) (locs : List Loc) (ls : Array Slot), WS X A s.heap σ H locs → lv_has ls 1 [(0, .ref (ga X 25))] → wpJ_X5_refusalDetail_13 K y1 σ → WI X K p l e ({ frames := 1, cells := 0, slots := 0, locals := 21 } : Room) s m args below meth c A H locs (F0 m 13 ls [.int y1, .ref (ga X 25)]) := by
    intro y1 σ H locs ls hS hl h
    unfold wpJ_X5_refusalDetail_13 at h
    refine k_VI (As := [.int y1]) (rest := []) (c_X5_fails l X h) mf_X5_fails lk1199 hx hb hml hown ht hK hZ hS hA 25 5 rfl rfl rfl ⟨rfl, rfl⟩ ⟨Nat.le_of_ble_eq_true rfl, Nat.le_of_ble_eq_true rfl⟩ rfl hl.1 rfl (Nat.le_of_ble_eq_true rfl) ⟨Nat.le_of_ble_eq_true rfl, Nat.le_of_ble_eq_true rfl⟩ ddX5_refusalDetail_13 (fun r3 σ2 H locs hS h => ?_)
    refine lv_if_eq (tgt := 23) hx hb ddX5_refusalDetail_16 (by decide) (fun c4 => ?_) (fun c4 => ?_)
    · replace h := h.1 c4
      refine lv_aload_n hx hb ddX5_refusalDetail_23 rfl (lv_at hl 0 rfl) ?_
      refine get_25_9 hx hb hown ht hK hS lk1133 ddX5_refusalDetail_24 ?_
      exact k_iret hx hb hr hlocks hK hS h ddX5_refusalDetail_27
    · replace h := h.2 c4
      refine lv_iconst (v := (0 : Int32)) hx hb ddX5_refusalDetail_19 (by decide) ?_
      refine lv_goto (tgt := 27) hx hb ddX5_refusalDetail_20 (by decide) ?_
      exact k_iret hx hb hr hlocks hK hS h ddX5_refusalDetail_27
  unfold wp_X5_refusalDetail at h
  refine lv_aload_n hx hb ddX5_refusalDetail_0 rfl (lv_at hl 0 rfl) ?_
  refine lv_aload_n hx hb ddX5_refusalDetail_1 rfl (lv_at hl 0 rfl) ?_
  refine get_25_8 hx hb hown ht hK hS lk1132 ddX5_refusalDetail_2 ?_
  refine lv_if_ne (tgt := 12) hx hb ddX5_refusalDetail_5 (by decide) (fun c1 => ?_) (fun c1 => ?_)
  · replace h := h.1 c1
    refine lv_iconst (v := (0 : Int32)) hx hb ddX5_refusalDetail_12 (by decide) ?_
    exact hJ13 _ _ _ _ _ hS (lv_sub hl [0] rfl) h
  · replace h := h.2 c1
    refine lv_iconst (v := (1 : Int32)) hx hb ddX5_refusalDetail_8 (by decide) ?_
    refine lv_goto (tgt := 13) hx hb ddX5_refusalDetail_9 (by decide) ?_
    exact hJ13 _ _ _ _ _ hS (lv_sub hl [0] rfl) h

set_option maxHeartbeats 4000000 in
set_option maxRecDepth 100000 in
theorem c_X5_writes (l : Launch) (X : GX) {x1 : Int32} {σ : Mem} {K : Mem → Prop} (h : wp_X5_writes x1 σ K) : MV l X yX5_writes cX5_writes 2 ((Option.none : Option Jvm.ClassFile.FieldType)) ({ frames := 0, cells := 0, slots := 0, locals := 0 } : Room) [.ref (ga X 25), .int x1] σ K := by
  refine ent_met (QQ := fun A => va_Qv K (BW X A) A) (by decide) (Nat.le_of_ble_eq_true rfl) ?_
  intro p e s m args below meth c A ls hx hb hr hlocks hml hown ht hK hZ hA hS hl
  have hown : s.vm.findClass "GuardRosterModel" = some m.cls := hown
  have hl : lv_has ls 2 [(0, .ref (ga X 25)), (1, .int x1)] := hl
  unfold wp_X5_writes at h
  refine lv_aload_n hx hb ddX5_writes_0 rfl (lv_at hl 0 rfl) ?_
  refine get_25_14 hx hb hown ht hK hS lk1138 ddX5_writes_1 ?_
  refine lv_aload_n hx hb ddX5_writes_4 rfl (lv_at hl 0 rfl) ?_
  refine get_25_15 hx hb hown ht hK hS lk1139 ddX5_writes_5 ?_
  refine lv_iload_n hx hb ddX5_writes_8 rfl (lv_at hl 1 rfl) ?_
  refine lv_i2c hx hb ddX5_writes_9 rfl ?_
  refine ast_31 hx hb hK hS h.1 ddX5_writes_10 (fun H locs hS => ?_)
  replace h := h.2
  obtain ⟨σ1, eσ1⟩ : ∃ y : Mem, y = (st σ 31 (σ 25 15).toNatClampNeg (vp_nar .char ((x1.toUInt32 % 65536).toInt32))) := ⟨_, rfl⟩
  rw [← eσ1] at hS
  replace h := h σ1 eσ1
  refine lv_aload_n hx hb ddX5_writes_11 rfl (lv_at hl 0 rfl) ?_
  refine lv_dup hx hb ddX5_writes_12 rfl ?_
  refine get_25_15 hx hb hown ht hK hS lk1139 ddX5_writes_13 ?_
  refine lv_iconst (v := (1 : Int32)) hx hb ddX5_writes_16 (by decide) ?_
  refine lv_iadd hx hb ddX5_writes_17 ?_
  refine put_25_15 hx hb hown ht hK hS lk1139 ddX5_writes_18 (fun H locs hS => ?_)
  obtain ⟨σ2, eσ2⟩ : ∃ y : Mem, y = (st σ1 25 15 ((σ1 25 15) + (1 : Int32))) := ⟨_, rfl⟩
  rw [← eσ2] at hS
  replace h := h σ2 eσ2
  exact k_vret hx hb hr hlocks hK hS h ddX5_writes_21

set_option maxHeartbeats 4000000 in
set_option maxRecDepth 100000 in
theorem c_X5_writeSlot (l : Launch) (X : GX) {x1 : Int32} {σ : Mem} {K : Int32 → Mem → Prop} (h : wp_X5_writeSlot x1 σ K) : MI l X yX5_writeSlot cX5_writeSlot 3 ((Option.some Jvm.ClassFile.FieldType.int)) ({ frames := 2, cells := 0, slots := 0, locals := 42 } : Room) [.ref (ga X 25), .int x1] σ K := by
  refine ent_met (QQ := fun A => va_Qi K (BW X A) A) (by decide) (Nat.le_of_ble_eq_true rfl) ?_
  intro p e s m args below meth c A ls hx hb hr hlocks hml hown ht hK hZ hA hS hl
  have hown : s.vm.findClass "GuardRosterModel" = some m.cls := hown
  have hl : lv_has ls 3 [(0, .ref (ga X 25)), (1, .int x1)] := hl
  have hL76 : ∀ (n : Nat) (x1 x2 : Int32) (σ : Mem) (H : Heap) (locs : List Loc) (ls : Array Slot), WS X A s.heap σ H locs → lv_has ls 3 [(0, .ref (ga X 25)), (1, .int x1), (2, .int x2)] → wlp (wpF_X5_writeSlot_76 K) n (x1, x2, σ) → WI X K p l e ({ frames := 2, cells := 0, slots := 0, locals := 42 } : Room) s m args below meth c A H locs (F0 m 76 ls []) := by
    intro n76
    induction n76 with
    | zero => intro x1 x2 σ H locs ls hS hl h; exact h.elim
    | succ n76 ih76 =>
      have hJ116 : ∀ (x1 x2 y1 : Int32) (σ : Mem) (H : Heap) (locs : List Loc) (ls : Array Slot), WS X A s.heap σ H locs → lv_has ls 3 [(0, .ref (ga X 25)), (1, .int x1), (2, .int x2)] → wpJ_X5_writeSlot_116 K (wlp (wpF_X5_writeSlot_76 K) n76) x1 x2 y1 σ → WI X K p l e ({ frames := 2, cells := 0, slots := 0, locals := 42 } : Room) s m args below meth c A H locs (F0 m 116 ls [.int y1, .ref (ga X 25)]) := by
        intro x1 x2 y1 σ H locs ls hS hl h
        unfold wpJ_X5_writeSlot_116 at h
        refine k_VV (As := [.int y1]) (rest := []) (c_X5_writes l X h) mf_X5_writes lk1448 hx hb hml hown ht hK hZ hS hA 25 5 rfl rfl rfl ⟨rfl, rfl⟩ ⟨Nat.le_of_ble_eq_true rfl, Nat.le_of_ble_eq_true rfl⟩ rfl hl.1 rfl (Nat.le_of_ble_eq_true rfl) ⟨Nat.le_of_ble_eq_true rfl, Nat.le_of_ble_eq_true rfl⟩ ddX5_writeSlot_116 (fun σ20 H locs hS h => ?_)
        obtain ⟨v21, ev21⟩ : ∃ y : Int32, y = x2 + (1 : Int32) := ⟨_, rfl⟩
        replace h := h v21 ev21
        refine lv_iinc (v := v21) (lv' := [(2, .int v21), (0, .ref (ga X 25)), (1, .int x1)]) hx hb ddX5_writeSlot_119 hl (k := 2) rfl (by rw [ev21]; rfl) (by decide) rfl (fun ls hl => ?_)
        refine lv_goto (tgt := 76) hx hb ddX5_writeSlot_122 (by decide) ?_
        exact ih76 _ _ _ _ _ _ hS (lv_sub hl [1, 2, 0] rfl) h
      intro x1 x2 σ H locs ls hS hl h
      replace h : wpS_X5_writeSlot_76 K (wlp (wpF_X5_writeSlot_76 K) n76) x1 x2 σ := h
      unfold wpS_X5_writeSlot_76 at h
      refine lv_iload_n hx hb ddX5_writeSlot_76 rfl (lv_at hl 2 rfl) ?_
      refine lv_aload_n hx hb ddX5_writeSlot_77 rfl (lv_at hl 0 rfl) ?_
      refine get_25_0 hx hb hown ht hK hS lk1124 ddX5_writeSlot_78 ?_
      refine lv_iconst (v := (0 : Int32)) hx hb ddX5_writeSlot_81 (by decide) ?_
      refine aldk_26 hx hb hK hS 0 (by unfold vp_in; decide) rfl ddX5_writeSlot_82 ?_
      refine lv_icmp_ge (tgt := 125) hx hb ddX5_writeSlot_83 (by decide) (fun c13 => ?_) (fun c13 => ?_)
      · replace h := h.1 c13
        refine lv_aload_n hx hb ddX5_writeSlot_125 rfl (lv_at hl 0 rfl) ?_
        refine get_25_15 hx hb hown ht hK hS lk1139 ddX5_writeSlot_126 ?_
        exact k_iret hx hb hr hlocks hK hS h ddX5_writeSlot_129
      · replace h := h.2 c13
        refine lv_aload_n hx hb ddX5_writeSlot_86 rfl (lv_at hl 0 rfl) ?_
        refine lv_bipush (v := (32 : Int32)) hx hb ddX5_writeSlot_87 (by decide) ?_
        refine k_VV (As := [.int (32 : Int32)]) (rest := []) (c_X5_writes l X h) mf_X5_writes lk1448 hx hb hml hown ht hK hZ hS hA 25 5 rfl rfl rfl ⟨rfl, rfl⟩ ⟨Nat.le_of_ble_eq_true rfl, Nat.le_of_ble_eq_true rfl⟩ rfl hl.1 rfl (Nat.le_of_ble_eq_true rfl) ⟨Nat.le_of_ble_eq_true rfl, Nat.le_of_ble_eq_true rfl⟩ ddX5_writeSlot_89 (fun σ14 H locs hS h => ?_)
        refine lv_aload_n hx hb ddX5_writeSlot_92 rfl (lv_at hl 0 rfl) ?_
        refine lv_aload_n hx hb ddX5_writeSlot_93 rfl (lv_at hl 0 rfl) ?_
        refine lv_iload_n hx hb ddX5_writeSlot_94 rfl (lv_at hl 2 rfl) ?_
        refine lv_iload_n hx hb ddX5_writeSlot_95 rfl (lv_at hl 1 rfl) ?_
        refine k_VI (As := [.int x2, .int x1]) (rest := [.ref (ga X 25)]) (c_X5_who l X h) mf_X5_who lk1269 hx hb hml hown ht hK hZ hS hA 25 5 rfl rfl rfl ⟨rfl, rfl⟩ ⟨Nat.le_of_ble_eq_true rfl, Nat.le_of_ble_eq_true rfl⟩ rfl hl.1 rfl (Nat.le_of_ble_eq_true rfl) ⟨Nat.le_of_ble_eq_true rfl, Nat.le_of_ble_eq_true rfl⟩ ddX5_writeSlot_96 (fun r16 σ15 H locs hS h => ?_)
        refine lv_if_ge (tgt := 107) hx hb ddX5_writeSlot_99 (by decide) (fun c17 => ?_) (fun c17 => ?_)
        · replace h := h.1 c17
          refine lv_bipush (v := (48 : Int32)) hx hb ddX5_writeSlot_107 (by decide) ?_
          refine lv_aload_n hx hb ddX5_writeSlot_109 rfl (lv_at hl 0 rfl) ?_
          refine lv_iload_n hx hb ddX5_writeSlot_110 rfl (lv_at hl 2 rfl) ?_
          refine lv_iload_n hx hb ddX5_writeSlot_111 rfl (lv_at hl 1 rfl) ?_
          refine k_VI (As := [.int x2, .int x1]) (rest := [.int (48 : Int32), .ref (ga X 25)]) (c_X5_who l X h) mf_X5_who lk1269 hx hb hml hown ht hK hZ hS hA 25 5 rfl rfl rfl ⟨rfl, rfl⟩ ⟨Nat.le_of_ble_eq_true rfl, Nat.le_of_ble_eq_true rfl⟩ rfl hl.1 rfl (Nat.le_of_ble_eq_true rfl) ⟨Nat.le_of_ble_eq_true rfl, Nat.le_of_ble_eq_true rfl⟩ ddX5_writeSlot_112 (fun r19 σ18 H locs hS h => ?_)
          refine lv_iadd hx hb ddX5_writeSlot_115 ?_
          exact hJ116 _ _ _ _ _ _ _ hS (lv_sub hl [0, 1, 2] rfl) h
        · replace h := h.2 c17
          refine lv_bipush (v := (45 : Int32)) hx hb ddX5_writeSlot_102 (by decide) ?_
          refine lv_goto (tgt := 116) hx hb ddX5_writeSlot_104 (by decide) ?_
          exact hJ116 _ _ _ _ _ _ _ hS (lv_sub hl [0, 1, 2] rfl) h
  have hJ55 : ∀ (x1 : Int32) (σ : Mem) (H : Heap) (locs : List Loc) (ls : Array Slot), WS X A s.heap σ H locs → lv_has ls 3 [(0, .ref (ga X 25)), (1, .int x1)] → wpJ_X5_writeSlot_55 K x1 σ → WI X K p l e ({ frames := 2, cells := 0, slots := 0, locals := 42 } : Room) s m args below meth c A H locs (F0 m 55 ls []) := by
    intro x1 σ H locs ls hS hl h
    unfold wpJ_X5_writeSlot_55 at h
    refine lv_aload_n hx hb ddX5_writeSlot_55 rfl (lv_at hl 0 rfl) ?_
    refine lv_bipush (v := (48 : Int32)) hx hb ddX5_writeSlot_56 (by decide) ?_
    refine lv_iload_n hx hb ddX5_writeSlot_58 rfl (lv_at hl 1 rfl) ?_
    refine lv_iconst (v := (2 : Int32)) hx hb ddX5_writeSlot_59 (by decide) ?_
    refine lv_idiv hx hb ddX5_writeSlot_60 (by decide) ?_
    refine lv_bipush (v := (10 : Int32)) hx hb ddX5_writeSlot_61 (by decide) ?_
    refine lv_irem hx hb ddX5_writeSlot_63 (by decide) ?_
    refine lv_iadd hx hb ddX5_writeSlot_64 ?_
    refine k_VV (As := [.int ((48 : Int32) + ((x1 / (2 : Int32)) - (x1 / (2 : Int32)) / (10 : Int32) * (10 : Int32)))]) (rest := []) (c_X5_writes l X h) mf_X5_writes lk1448 hx hb hml hown ht hK hZ hS hA 25 5 rfl rfl rfl ⟨rfl, rfl⟩ ⟨Nat.le_of_ble_eq_true rfl, Nat.le_of_ble_eq_true rfl⟩ rfl hl.1 rfl (Nat.le_of_ble_eq_true rfl) ⟨Nat.le_of_ble_eq_true rfl, Nat.le_of_ble_eq_true rfl⟩ ddX5_writeSlot_65 (fun σ11 H locs hS h => ?_)
    refine lv_aload_n hx hb ddX5_writeSlot_68 rfl (lv_at hl 0 rfl) ?_
    refine lv_bipush (v := (58 : Int32)) hx hb ddX5_writeSlot_69 (by decide) ?_
    refine k_VV (As := [.int (58 : Int32)]) (rest := []) (c_X5_writes l X h) mf_X5_writes lk1448 hx hb hml hown ht hK hZ hS hA 25 5 rfl rfl rfl ⟨rfl, rfl⟩ ⟨Nat.le_of_ble_eq_true rfl, Nat.le_of_ble_eq_true rfl⟩ rfl hl.1 rfl (Nat.le_of_ble_eq_true rfl) ⟨Nat.le_of_ble_eq_true rfl, Nat.le_of_ble_eq_true rfl⟩ ddX5_writeSlot_71 (fun σ12 H locs hS h => ?_)
    refine lv_iconst (v := (0 : Int32)) hx hb ddX5_writeSlot_74 (by decide) ?_
    refine lv_istore_n (lv' := [(2, .int (0 : Int32)), (0, .ref (ga X 25)), (1, .int x1)]) hx hb ddX5_writeSlot_75 rfl hl (by decide) rfl (fun ls hl => ?_)
    obtain ⟨n, h⟩ := h
    exact hL76 n _ _ _ _ _ _ hS (lv_sub hl [1, 2, 0] rfl) h
  have hJ40 : ∀ (x1 y1 : Int32) (σ : Mem) (H : Heap) (locs : List Loc) (ls : Array Slot), WS X A s.heap σ H locs → lv_has ls 3 [(0, .ref (ga X 25)), (1, .int x1)] → wpJ_X5_writeSlot_40 K x1 y1 σ → WI X K p l e ({ frames := 2, cells := 0, slots := 0, locals := 42 } : Room) s m args below meth c A H locs (F0 m 40 ls [.int y1, .ref (ga X 25)]) := by
    intro x1 y1 σ H locs ls hS hl h
    unfold wpJ_X5_writeSlot_40 at h
    refine k_VV (As := [.int y1]) (rest := []) (c_X5_writes l X h) mf_X5_writes lk1448 hx hb hml hown ht hK hZ hS hA 25 5 rfl rfl rfl ⟨rfl, rfl⟩ ⟨Nat.le_of_ble_eq_true rfl, Nat.le_of_ble_eq_true rfl⟩ rfl hl.1 rfl (Nat.le_of_ble_eq_true rfl) ⟨Nat.le_of_ble_eq_true rfl, Nat.le_of_ble_eq_true rfl⟩ ddX5_writeSlot_40 (fun σ9 H locs hS h => ?_)
    refine lv_iload_n hx hb ddX5_writeSlot_43 rfl (lv_at hl 1 rfl) ?_
    refine lv_bipush (v := (19 : Int32)) hx hb ddX5_writeSlot_44 (by decide) ?_
    refine lv_icmp_le (tgt := 55) hx hb ddX5_writeSlot_46 (by decide) (fun c10 => ?_) (fun c10 => ?_)
    · replace h := h.1 c10
      exact hJ55 _ _ _ _ _ hS (lv_sub hl [0, 1] rfl) h
    · replace h := h.2 c10
      refine lv_aload_n hx hb ddX5_writeSlot_49 rfl (lv_at hl 0 rfl) ?_
      refine lv_bipush (v := (49 : Int32)) hx hb ddX5_writeSlot_50 (by decide) ?_
      refine k_VV (As := [.int (49 : Int32)]) (rest := []) (c_X5_writes l X h) mf_X5_writes lk1448 hx hb hml hown ht hK hZ hS hA 25 5 rfl rfl rfl ⟨rfl, rfl⟩ ⟨Nat.le_of_ble_eq_true rfl, Nat.le_of_ble_eq_true rfl⟩ rfl hl.1 rfl (Nat.le_of_ble_eq_true rfl) ⟨Nat.le_of_ble_eq_true rfl, Nat.le_of_ble_eq_true rfl⟩ ddX5_writeSlot_52 (fun σ22 H locs hS h => ?_)
      exact hJ55 _ _ _ _ _ hS (lv_sub hl [0, 1] rfl) h
  have hJ13 : ∀ (x1 y1 : Int32) (σ : Mem) (H : Heap) (locs : List Loc) (ls : Array Slot), WS X A s.heap σ H locs → lv_has ls 3 [(0, .ref (ga X 25)), (1, .int x1)] → wpJ_X5_writeSlot_13 K x1 y1 σ → WI X K p l e ({ frames := 2, cells := 0, slots := 0, locals := 42 } : Room) s m args below meth c A H locs (F0 m 13 ls [.int y1, .ref (ga X 25)]) := by
    intro x1 y1 σ H locs ls hS hl h
    unfold wpJ_X5_writeSlot_13 at h
    refine k_VI (As := [.int y1]) (rest := []) (c_X5_fails l X h) mf_X5_fails lk1199 hx hb hml hown ht hK hZ hS hA 25 5 rfl rfl rfl ⟨rfl, rfl⟩ ⟨Nat.le_of_ble_eq_true rfl, Nat.le_of_ble_eq_true rfl⟩ rfl hl.1 rfl (Nat.le_of_ble_eq_true rfl) ⟨Nat.le_of_ble_eq_true rfl, Nat.le_of_ble_eq_true rfl⟩ ddX5_writeSlot_13 (fun r5 σ4 H locs hS h => ?_)
    refine lv_if_eq (tgt := 21) hx hb ddX5_writeSlot_16 (by decide) (fun c6 => ?_) (fun c6 => ?_)
    · replace h := h.1 c6
      refine lv_aload_n hx hb ddX5_writeSlot_21 rfl (lv_at hl 0 rfl) ?_
      refine lv_iconst (v := (0 : Int32)) hx hb ddX5_writeSlot_22 (by decide) ?_
      refine put_25_15 hx hb hown ht hK hS lk1139 ddX5_writeSlot_23 (fun H locs hS => ?_)
      obtain ⟨σ7, eσ7⟩ : ∃ y : Mem, y = (st σ4 25 15 (0 : Int32)) := ⟨_, rfl⟩
      rw [← eσ7] at hS
      replace h := h σ7 eσ7
      refine lv_aload_n hx hb ddX5_writeSlot_26 rfl (lv_at hl 0 rfl) ?_
      refine lv_iload_n hx hb ddX5_writeSlot_27 rfl (lv_at hl 1 rfl) ?_
      refine lv_iconst (v := (2 : Int32)) hx hb ddX5_writeSlot_28 (by decide) ?_
      refine lv_irem hx hb ddX5_writeSlot_29 (by decide) ?_
      refine lv_if_ne (tgt := 38) hx hb ddX5_writeSlot_30 (by decide) (fun c8 => ?_) (fun c8 => ?_)
      · replace h := h.1 c8
        refine lv_bipush (v := (110 : Int32)) hx hb ddX5_writeSlot_38 (by decide) ?_
        exact hJ40 _ _ _ _ _ _ hS (lv_sub hl [0, 1] rfl) h
      · replace h := h.2 c8
        refine lv_bipush (v := (100 : Int32)) hx hb ddX5_writeSlot_33 (by decide) ?_
        refine lv_goto (tgt := 40) hx hb ddX5_writeSlot_35 (by decide) ?_
        exact hJ40 _ _ _ _ _ _ hS (lv_sub hl [0, 1] rfl) h
    · replace h := h.2 c6
      refine lv_iconst (v := (0 : Int32)) hx hb ddX5_writeSlot_19 (by decide) ?_
      exact k_iret hx hb hr hlocks hK hS h ddX5_writeSlot_20
  unfold wp_X5_writeSlot at h
  refine lv_aload_n hx hb ddX5_writeSlot_0 rfl (lv_at hl 0 rfl) ?_
  refine lv_iload_n hx hb ddX5_writeSlot_1 rfl (lv_at hl 1 rfl) ?_
  refine k_SI (As := [.int x1]) (rest := [.ref (ga X 25)]) (c_X5_isSlot l X h) mf_X5_isSlot lk1258 hx hb hml hown ht hK hZ hS hA ⟨rfl, rfl⟩ ⟨Nat.le_of_ble_eq_true rfl, Nat.le_of_ble_eq_true rfl⟩ rfl hl.1 rfl (Nat.le_of_ble_eq_true rfl) ⟨Nat.le_of_ble_eq_true rfl, Nat.le_of_ble_eq_true rfl⟩ ddX5_writeSlot_2 (fun r2 σ1 H locs hS h => ?_)
  refine lv_if_eq (tgt := 12) hx hb ddX5_writeSlot_5 (by decide) (fun c3 => ?_) (fun c3 => ?_)
  · replace h := h.1 c3
    refine lv_iconst (v := (1 : Int32)) hx hb ddX5_writeSlot_12 (by decide) ?_
    exact hJ13 _ _ _ _ _ _ hS (lv_sub hl [0, 1] rfl) h
  · replace h := h.2 c3
    refine lv_iconst (v := (0 : Int32)) hx hb ddX5_writeSlot_8 (by decide) ?_
    refine lv_goto (tgt := 13) hx hb ddX5_writeSlot_9 (by decide) ?_
    exact hJ13 _ _ _ _ _ _ hS (lv_sub hl [0, 1] rfl) h

set_option maxHeartbeats 4000000 in
set_option maxRecDepth 100000 in
theorem c_X5_writeGuard (l : Launch) (X : GX) {x1 : Int32} {σ : Mem} {K : Int32 → Mem → Prop} (h : wp_X5_writeGuard x1 σ K) : MI l X yX5_writeGuard cX5_writeGuard 3 ((Option.some Jvm.ClassFile.FieldType.int)) ({ frames := 3, cells := 0, slots := 0, locals := 65 } : Room) [.ref (ga X 25), .int x1] σ K := by
  refine ent_met (QQ := fun A => va_Qi K (BW X A) A) (by decide) (Nat.le_of_ble_eq_true rfl) ?_
  intro p e s m args below meth c A ls hx hb hr hlocks hml hown ht hK hZ hA hS hl
  have hown : s.vm.findClass "GuardRosterModel" = some m.cls := hown
  have hl : lv_has ls 3 [(0, .ref (ga X 25)), (1, .int x1)] := hl
  have hL17 : ∀ (n : Nat) (x1 x2 : Int32) (σ : Mem) (H : Heap) (locs : List Loc) (ls : Array Slot), WS X A s.heap σ H locs → lv_has ls 3 [(0, .ref (ga X 25)), (1, .int x1), (2, .int x2)] → wlp (wpF_X5_writeGuard_17 K) n (x1, x2, σ) → WI X K p l e ({ frames := 3, cells := 0, slots := 0, locals := 65 } : Room) s m args below meth c A H locs (F0 m 17 ls []) := by
    intro n17
    induction n17 with
    | zero => intro x1 x2 σ H locs ls hS hl h; exact h.elim
    | succ n17 ih17 =>
      have hJ61 : ∀ (x1 x2 y1 : Int32) (σ : Mem) (H : Heap) (locs : List Loc) (ls : Array Slot), WS X A s.heap σ H locs → lv_has ls 3 [(0, .ref (ga X 25)), (1, .int x1), (2, .int x2)] → wpJ_X5_writeGuard_61 K (wlp (wpF_X5_writeGuard_17 K) n17) x1 x2 y1 σ → WI X K p l e ({ frames := 3, cells := 0, slots := 0, locals := 65 } : Room) s m args below meth c A H locs (F0 m 61 ls [.int y1, .ref (ga X 25)]) := by
        intro x1 x2 y1 σ H locs ls hS hl h
        unfold wpJ_X5_writeGuard_61 at h
        refine k_VV (As := [.int y1]) (rest := []) (c_X5_writes l X h) mf_X5_writes lk1448 hx hb hml hown ht hK hZ hS hA 25 5 rfl rfl rfl ⟨rfl, rfl⟩ ⟨Nat.le_of_ble_eq_true rfl, Nat.le_of_ble_eq_true rfl⟩ rfl hl.1 rfl (Nat.le_of_ble_eq_true rfl) ⟨Nat.le_of_ble_eq_true rfl, Nat.le_of_ble_eq_true rfl⟩ ddX5_writeGuard_61 (fun σ12 H locs hS h => ?_)
        obtain ⟨v13, ev13⟩ : ∃ y : Int32, y = x2 + (1 : Int32) := ⟨_, rfl⟩
        replace h := h v13 ev13
        refine lv_iinc (v := v13) (lv' := [(2, .int v13), (0, .ref (ga X 25)), (1, .int x1)]) hx hb ddX5_writeGuard_64 hl (k := 2) rfl (by rw [ev13]; rfl) (by decide) rfl (fun ls hl => ?_)
        refine lv_goto (tgt := 17) hx hb ddX5_writeGuard_67 (by decide) ?_
        exact ih17 _ _ _ _ _ _ hS (lv_sub hl [1, 2, 0] rfl) h
      intro x1 x2 σ H locs ls hS hl h
      replace h : wpS_X5_writeGuard_17 K (wlp (wpF_X5_writeGuard_17 K) n17) x1 x2 σ := h
      unfold wpS_X5_writeGuard_17 at h
      refine lv_iload_n hx hb ddX5_writeGuard_17 rfl (lv_at hl 2 rfl) ?_
      refine lv_bipush (v := (28 : Int32)) hx hb ddX5_writeGuard_18 (by decide) ?_
      refine lv_icmp_ge (tgt := 70) hx hb ddX5_writeGuard_20 (by decide) (fun c5 => ?_) (fun c5 => ?_)
      · replace h := h.1 c5
        refine lv_aload_n hx hb ddX5_writeGuard_70 rfl (lv_at hl 0 rfl) ?_
        refine get_25_15 hx hb hown ht hK hS lk1139 ddX5_writeGuard_71 ?_
        exact k_iret hx hb hr hlocks hK hS h ddX5_writeGuard_74
      · replace h := h.2 c5
        refine lv_aload_n hx hb ddX5_writeGuard_23 rfl (lv_at hl 0 rfl) ?_
        refine lv_aload_n hx hb ddX5_writeGuard_24 rfl (lv_at hl 0 rfl) ?_
        refine lv_iload_n hx hb ddX5_writeGuard_25 rfl (lv_at hl 1 rfl) ?_
        refine lv_iload_n hx hb ddX5_writeGuard_26 rfl (lv_at hl 2 rfl) ?_
        refine k_VI (As := [.int x1, .int x2]) (rest := [.ref (ga X 25)]) (c_X5_where l X h) mf_X5_where lk1277 hx hb hml hown ht hK hZ hS hA 25 5 rfl rfl rfl ⟨rfl, rfl⟩ ⟨Nat.le_of_ble_eq_true rfl, Nat.le_of_ble_eq_true rfl⟩ rfl hl.1 rfl (Nat.le_of_ble_eq_true rfl) ⟨Nat.le_of_ble_eq_true rfl, Nat.le_of_ble_eq_true rfl⟩ ddX5_writeGuard_27 (fun r7 σ6 H locs hS h => ?_)
        refine lv_if_lt (tgt := 45) hx hb ddX5_writeGuard_30 (by decide) (fun c8 => ?_) (fun c8 => ?_)
        · replace h := h.1 c8
          refine lv_aload_n hx hb ddX5_writeGuard_45 rfl (lv_at hl 0 rfl) ?_
          refine lv_iload_n hx hb ddX5_writeGuard_46 rfl (lv_at hl 1 rfl) ?_
          refine lv_iload_n hx hb ddX5_writeGuard_47 rfl (lv_at hl 2 rfl) ?_
          refine k_VI (As := [.int x1, .int x2]) (rest := [.ref (ga X 25)]) (c_X5_isOff l X h) mf_X5_isOff lk1273 hx hb hml hown ht hK hZ hS hA 25 5 rfl rfl rfl ⟨rfl, rfl⟩ ⟨Nat.le_of_ble_eq_true rfl, Nat.le_of_ble_eq_true rfl⟩ rfl hl.1 rfl (Nat.le_of_ble_eq_true rfl) ⟨Nat.le_of_ble_eq_true rfl, Nat.le_of_ble_eq_true rfl⟩ ddX5_writeGuard_48 (fun r10 σ9 H locs hS h => ?_)
          refine lv_if_eq (tgt := 59) hx hb ddX5_writeGuard_51 (by decide) (fun c11 => ?_) (fun c11 => ?_)
          · replace h := h.1 c11
            refine lv_bipush (v := (46 : Int32)) hx hb ddX5_writeGuard_59 (by decide) ?_
            exact hJ61 _ _ _ _ _ _ _ hS (lv_sub hl [0, 1, 2] rfl) h
          · replace h := h.2 c11
            refine lv_bipush (v := (120 : Int32)) hx hb ddX5_writeGuard_54 (by decide) ?_
            refine lv_goto (tgt := 61) hx hb ddX5_writeGuard_56 (by decide) ?_
            exact hJ61 _ _ _ _ _ _ _ hS (lv_sub hl [0, 1, 2] rfl) h
        · replace h := h.2 c8
          refine lv_bipush (v := (48 : Int32)) hx hb ddX5_writeGuard_33 (by decide) ?_
          refine lv_aload_n hx hb ddX5_writeGuard_35 rfl (lv_at hl 0 rfl) ?_
          refine lv_iload_n hx hb ddX5_writeGuard_36 rfl (lv_at hl 1 rfl) ?_
          refine lv_iload_n hx hb ddX5_writeGuard_37 rfl (lv_at hl 2 rfl) ?_
          refine k_VI (As := [.int x1, .int x2]) (rest := [.int (48 : Int32), .ref (ga X 25)]) (c_X5_where l X h) mf_X5_where lk1277 hx hb hml hown ht hK hZ hS hA 25 5 rfl rfl rfl ⟨rfl, rfl⟩ ⟨Nat.le_of_ble_eq_true rfl, Nat.le_of_ble_eq_true rfl⟩ rfl hl.1 rfl (Nat.le_of_ble_eq_true rfl) ⟨Nat.le_of_ble_eq_true rfl, Nat.le_of_ble_eq_true rfl⟩ ddX5_writeGuard_38 (fun r15 σ14 H locs hS h => ?_)
          refine lv_iadd hx hb ddX5_writeGuard_41 ?_
          refine lv_goto (tgt := 61) hx hb ddX5_writeGuard_42 (by decide) ?_
          exact hJ61 _ _ _ _ _ _ _ hS (lv_sub hl [0, 1, 2] rfl) h
  unfold wp_X5_writeGuard at h
  refine lv_aload_n hx hb ddX5_writeGuard_0 rfl (lv_at hl 0 rfl) ?_
  refine lv_iload_n hx hb ddX5_writeGuard_1 rfl (lv_at hl 1 rfl) ?_
  refine k_VI (As := [.int x1]) (rest := []) (c_X5_isNone l X h) mf_X5_isNone lk1234 hx hb hml hown ht hK hZ hS hA 25 5 rfl rfl rfl ⟨rfl, rfl⟩ ⟨Nat.le_of_ble_eq_true rfl, Nat.le_of_ble_eq_true rfl⟩ rfl hl.1 rfl (Nat.le_of_ble_eq_true rfl) ⟨Nat.le_of_ble_eq_true rfl, Nat.le_of_ble_eq_true rfl⟩ ddX5_writeGuard_2 (fun r2 σ1 H locs hS h => ?_)
  refine lv_if_eq (tgt := 10) hx hb ddX5_writeGuard_5 (by decide) (fun c3 => ?_) (fun c3 => ?_)
  · replace h := h.1 c3
    refine lv_aload_n hx hb ddX5_writeGuard_10 rfl (lv_at hl 0 rfl) ?_
    refine lv_iconst (v := (0 : Int32)) hx hb ddX5_writeGuard_11 (by decide) ?_
    refine put_25_15 hx hb hown ht hK hS lk1139 ddX5_writeGuard_12 (fun H locs hS => ?_)
    obtain ⟨σ4, eσ4⟩ : ∃ y : Mem, y = (st σ1 25 15 (0 : Int32)) := ⟨_, rfl⟩
    rw [← eσ4] at hS
    replace h := h σ4 eσ4
    refine lv_iconst (v := (0 : Int32)) hx hb ddX5_writeGuard_15 (by decide) ?_
    refine lv_istore_n (lv' := [(2, .int (0 : Int32)), (0, .ref (ga X 25)), (1, .int x1)]) hx hb ddX5_writeGuard_16 rfl hl (by decide) rfl (fun ls hl => ?_)
    obtain ⟨n, h⟩ := h
    exact hL17 n _ _ _ _ _ _ hS (lv_sub hl [1, 2, 0] rfl) h
  · replace h := h.2 c3
    refine lv_iconst (v := (0 : Int32)) hx hb ddX5_writeGuard_8 (by decide) ?_
    exact k_iret hx hb hr hlocks hK hS h ddX5_writeGuard_9

set_option maxHeartbeats 4000000 in
set_option maxRecDepth 100000 in
theorem c_X5_outputCharacter (l : Launch) (X : GX) {x1 : Int32} {σ : Mem} {K : Int32 → Mem → Prop} (h : wp_X5_outputCharacter x1 σ K) : MI l X yX5_outputCharacter cX5_outputCharacter 2 ((Option.some Jvm.ClassFile.FieldType.char)) ({ frames := 1, cells := 0, slots := 0, locals := 22 } : Room) [.ref (ga X 25), .int x1] σ K := by
  refine ent_met (QQ := fun A => va_Qi K (BW X A) A) (by decide) (Nat.le_of_ble_eq_true rfl) ?_
  intro p e s m args below meth c A ls hx hb hr hlocks hml hown ht hK hZ hA hS hl
  have hown : s.vm.findClass "GuardRosterModel" = some m.cls := hown
  have hl : lv_has ls 2 [(0, .ref (ga X 25)), (1, .int x1)] := hl
  have hJ20 : ∀ (x1 y1 : Int32) (σ : Mem) (H : Heap) (locs : List Loc) (ls : Array Slot), WS X A s.heap σ H locs → lv_has ls 2 [(0, .ref (ga X 25)), (1, .int x1)] → wpJ_X5_outputCharacter_20 K x1 y1 σ → WI X K p l e ({ frames := 1, cells := 0, slots := 0, locals := 22 } : Room) s m args below meth c A H locs (F0 m 20 ls [.int y1, .ref (ga X 25)]) := by
    intro x1 y1 σ H locs ls hS hl h
    unfold wpJ_X5_outputCharacter_20 at h
    refine k_VI (As := [.int y1]) (rest := []) (c_X5_fails l X h) mf_X5_fails lk1199 hx hb hml hown ht hK hZ hS hA 25 5 rfl rfl rfl ⟨rfl, rfl⟩ ⟨Nat.le_of_ble_eq_true rfl, Nat.le_of_ble_eq_true rfl⟩ rfl hl.1 rfl (Nat.le_of_ble_eq_true rfl) ⟨Nat.le_of_ble_eq_true rfl, Nat.le_of_ble_eq_true rfl⟩ ddX5_outputCharacter_20 (fun r5 σ4 H locs hS h => ?_)
    refine lv_if_eq (tgt := 31) hx hb ddX5_outputCharacter_23 (by decide) (fun c6 => ?_) (fun c6 => ?_)
    · replace h := h.1 c6
      refine lv_aload_n hx hb ddX5_outputCharacter_31 rfl (lv_at hl 0 rfl) ?_
      refine get_25_14 hx hb hown ht hK hS lk1138 ddX5_outputCharacter_32 ?_
      refine lv_iload_n hx hb ddX5_outputCharacter_35 rfl (lv_at hl 1 rfl) ?_
      refine ald_31 hx hb hK hS h.1 ddX5_outputCharacter_36 ?_
      replace h := h.2
      exact k_zret hx hb hr hlocks hK hS h.1 h.2 ddX5_outputCharacter_37
    · replace h := h.2 c6
      refine lv_bipush (v := (32 : Int32)) hx hb ddX5_outputCharacter_26 (by decide) ?_
      refine lv_goto (tgt := 37) hx hb ddX5_outputCharacter_28 (by decide) ?_
      exact k_zret hx hb hr hlocks hK hS rfl h ddX5_outputCharacter_37
  unfold wp_X5_outputCharacter at h
  refine lv_aload_n hx hb ddX5_outputCharacter_0 rfl (lv_at hl 0 rfl) ?_
  refine lv_iload_n hx hb ddX5_outputCharacter_1 rfl (lv_at hl 1 rfl) ?_
  refine lv_iconst (v := (0 : Int32)) hx hb ddX5_outputCharacter_2 (by decide) ?_
  refine lv_aload_n hx hb ddX5_outputCharacter_3 rfl (lv_at hl 0 rfl) ?_
  refine get_25_15 hx hb hown ht hK hS lk1139 ddX5_outputCharacter_4 ?_
  refine lv_iconst (v := (1 : Int32)) hx hb ddX5_outputCharacter_7 (by decide) ?_
  refine lv_isub hx hb ddX5_outputCharacter_8 ?_
  refine k_SI (As := [.int x1, .int (0 : Int32), .int ((σ 25 15) - (1 : Int32))]) (rest := [.ref (ga X 25)]) (c_X5_in l X h) mf_X5_in lk1196 hx hb hml hown ht hK hZ hS hA ⟨rfl, rfl⟩ ⟨Nat.le_of_ble_eq_true rfl, Nat.le_of_ble_eq_true rfl⟩ rfl hl.1 rfl (Nat.le_of_ble_eq_true rfl) ⟨Nat.le_of_ble_eq_true rfl, Nat.le_of_ble_eq_true rfl⟩ ddX5_outputCharacter_9 (fun r2 σ1 H locs hS h => ?_)
  refine lv_if_eq (tgt := 19) hx hb ddX5_outputCharacter_12 (by decide) (fun c3 => ?_) (fun c3 => ?_)
  · replace h := h.1 c3
    refine lv_iconst (v := (1 : Int32)) hx hb ddX5_outputCharacter_19 (by decide) ?_
    exact hJ20 _ _ _ _ _ _ hS (lv_sub hl [0, 1] rfl) h
  · replace h := h.2 c3
    refine lv_iconst (v := (0 : Int32)) hx hb ddX5_outputCharacter_15 (by decide) ?_
    refine lv_goto (tgt := 20) hx hb ddX5_outputCharacter_16 (by decide) ?_
    exact hJ20 _ _ _ _ _ _ hS (lv_sub hl [0, 1] rfl) h

set_option maxHeartbeats 4000000 in
set_option maxRecDepth 100000 in
theorem c_X5_isConsistent (l : Launch) (X : GX) {σ : Mem} {K : Int32 → Mem → Prop} (h : wp_X5_isConsistent σ K) : MI l X yX5_isConsistent cX5_isConsistent 3 ((Option.some Jvm.ClassFile.FieldType.boolean)) ({ frames := 3, cells := 0, slots := 0, locals := 65 } : Room) [.ref (ga X 25)] σ K := by
  refine ent_met (QQ := fun A => va_Qi K (BW X A) A) (by decide) (Nat.le_of_ble_eq_true rfl) ?_
  intro p e s m args below meth c A ls hx hb hr hlocks hml hown ht hK hZ hA hS hl
  have hown : s.vm.findClass "GuardRosterModel" = some m.cls := hown
  have hl : lv_has ls 3 [(0, .ref (ga X 25))] := hl
  have hL7 : ∀ (n : Nat) (x1 : Int32) (σ : Mem) (H : Heap) (locs : List Loc) (ls : Array Slot), WS X A s.heap σ H locs → lv_has ls 3 [(0, .ref (ga X 25)), (1, .int x1)] → wlp (wpF_X5_isConsistent_7 K) n (x1, σ) → WI X K p l e ({ frames := 3, cells := 0, slots := 0, locals := 65 } : Room) s m args below meth c A H locs (F0 m 7 ls []) := by
    intro n7
    induction n7 with
    | zero => intro x1 σ H locs ls hS hl h; exact h.elim
    | succ n7 ih7 =>
      have hJ53 : ∀ (x1 : Int32) (σ : Mem) (H : Heap) (locs : List Loc) (ls : Array Slot), WS X A s.heap σ H locs → lv_has ls 3 [(0, .ref (ga X 25)), (1, .int x1)] → wpJ_X5_isConsistent_53 K (wlp (wpF_X5_isConsistent_7 K) n7) x1 σ → WI X K p l e ({ frames := 3, cells := 0, slots := 0, locals := 65 } : Room) s m args below meth c A H locs (F0 m 53 ls []) := by
        intro x1 σ H locs ls hS hl h
        unfold wpJ_X5_isConsistent_53 at h
        obtain ⟨v4, ev4⟩ : ∃ y : Int32, y = x1 + (1 : Int32) := ⟨_, rfl⟩
        replace h := h v4 ev4
        refine lv_iinc (v := v4) (lv' := [(1, .int v4), (0, .ref (ga X 25))]) hx hb ddX5_isConsistent_53 hl (k := 1) rfl (by rw [ev4]; rfl) (by decide) rfl (fun ls hl => ?_)
        refine lv_goto (tgt := 7) hx hb ddX5_isConsistent_56 (by decide) ?_
        exact ih7 _ _ _ _ _ hS (lv_sub hl [1, 0] rfl) h
      have hL19 : ∀ (n : Nat) (x1 x2 : Int32) (σ : Mem) (H : Heap) (locs : List Loc) (ls : Array Slot), WS X A s.heap σ H locs → lv_has ls 3 [(0, .ref (ga X 25)), (1, .int x1), (2, .int x2)] → wlp (wpF_X5_isConsistent_19 K (wlp (wpF_X5_isConsistent_7 K) n7)) n (x1, x2, σ) → WI X K p l e ({ frames := 3, cells := 0, slots := 0, locals := 65 } : Room) s m args below meth c A H locs (F0 m 19 ls []) := by
        intro n19
        induction n19 with
        | zero => intro x1 x2 σ H locs ls hS hl h; exact h.elim
        | succ n19 ih19 =>
          have hJ47 : ∀ (x1 x2 : Int32) (σ : Mem) (H : Heap) (locs : List Loc) (ls : Array Slot), WS X A s.heap σ H locs → lv_has ls 3 [(0, .ref (ga X 25)), (1, .int x1), (2, .int x2)] → wpJ_X5_isConsistent_47 K (wlp (wpF_X5_isConsistent_7 K) n7) (wlp (wpF_X5_isConsistent_19 K (wlp (wpF_X5_isConsistent_7 K) n7)) n19) x1 x2 σ → WI X K p l e ({ frames := 3, cells := 0, slots := 0, locals := 65 } : Room) s m args below meth c A H locs (F0 m 47 ls []) := by
            intro x1 x2 σ H locs ls hS hl h
            unfold wpJ_X5_isConsistent_47 at h
            obtain ⟨v8, ev8⟩ : ∃ y : Int32, y = x2 + (1 : Int32) := ⟨_, rfl⟩
            replace h := h v8 ev8
            refine lv_iinc (v := v8) (lv' := [(2, .int v8), (0, .ref (ga X 25)), (1, .int x1)]) hx hb ddX5_isConsistent_47 hl (k := 2) rfl (by rw [ev8]; rfl) (by decide) rfl (fun ls hl => ?_)
            refine lv_goto (tgt := 19) hx hb ddX5_isConsistent_50 (by decide) ?_
            exact ih19 _ _ _ _ _ _ hS (lv_sub hl [1, 2, 0] rfl) h
          intro x1 x2 σ H locs ls hS hl h
          replace h : wpS_X5_isConsistent_19 K (wlp (wpF_X5_isConsistent_7 K) n7) (wlp (wpF_X5_isConsistent_19 K (wlp (wpF_X5_isConsistent_7 K) n7)) n19) x1 x2 σ := h
          unfold wpS_X5_isConsistent_19 at h
          refine lv_iload_n hx hb ddX5_isConsistent_19 rfl (lv_at hl 2 rfl) ?_
          refine lv_bipush (v := (28 : Int32)) hx hb ddX5_isConsistent_20 (by decide) ?_
          refine lv_icmp_ge (tgt := 53) hx hb ddX5_isConsistent_22 (by decide) (fun c3 => ?_) (fun c3 => ?_)
          · replace h := h.1 c3
            exact hJ53 _ _ _ _ _ hS (lv_sub hl [0, 1] rfl) h
          · replace h := h.2 c3
            refine lv_aload_n hx hb ddX5_isConsistent_25 rfl (lv_at hl 0 rfl) ?_
            refine lv_iload_n hx hb ddX5_isConsistent_26 rfl (lv_at hl 1 rfl) ?_
            refine lv_iload_n hx hb ddX5_isConsistent_27 rfl (lv_at hl 2 rfl) ?_
            refine k_VI (As := [.int x1, .int x2]) (rest := []) (c_X5_where l X h) mf_X5_where lk1277 hx hb hml hown ht hK hZ hS hA 25 5 rfl rfl rfl ⟨rfl, rfl⟩ ⟨Nat.le_of_ble_eq_true rfl, Nat.le_of_ble_eq_true rfl⟩ rfl hl.1 rfl (Nat.le_of_ble_eq_true rfl) ⟨Nat.le_of_ble_eq_true rfl, Nat.le_of_ble_eq_true rfl⟩ ddX5_isConsistent_28 (fun r6 σ5 H locs hS h => ?_)
            refine lv_if_lt (tgt := 47) hx hb ddX5_isConsistent_31 (by decide) (fun c7 => ?_) (fun c7 => ?_)
            · replace h := h.1 c7
              exact hJ47 _ _ _ _ _ _ hS (lv_sub hl [0, 1, 2] rfl) h
            · replace h := h.2 c7
              refine lv_aload_n hx hb ddX5_isConsistent_34 rfl (lv_at hl 0 rfl) ?_
              refine lv_iload_n hx hb ddX5_isConsistent_35 rfl (lv_at hl 1 rfl) ?_
              refine lv_iload_n hx hb ddX5_isConsistent_36 rfl (lv_at hl 2 rfl) ?_
              refine lv_iconst (v := (1 : Int32)) hx hb ddX5_isConsistent_37 (by decide) ?_
              refine lv_isub hx hb ddX5_isConsistent_38 ?_
              refine k_VI (As := [.int x1, .int (x2 - (1 : Int32))]) (rest := []) (c_X5_where l X h) mf_X5_where lk1277 hx hb hml hown ht hK hZ hS hA 25 5 rfl rfl rfl ⟨rfl, rfl⟩ ⟨Nat.le_of_ble_eq_true rfl, Nat.le_of_ble_eq_true rfl⟩ rfl hl.1 rfl (Nat.le_of_ble_eq_true rfl) ⟨Nat.le_of_ble_eq_true rfl, Nat.le_of_ble_eq_true rfl⟩ ddX5_isConsistent_39 (fun r10 σ9 H locs hS h => ?_)
              refine lv_if_lt (tgt := 47) hx hb ddX5_isConsistent_42 (by decide) (fun c11 => ?_) (fun c11 => ?_)
              · replace h := h.1 c11
                exact hJ47 _ _ _ _ _ _ hS (lv_sub hl [0, 1, 2] rfl) h
              · replace h := h.2 c11
                refine lv_iconst (v := (0 : Int32)) hx hb ddX5_isConsistent_45 (by decide) ?_
                exact k_zret hx hb hr hlocks hK hS rfl h ddX5_isConsistent_46
      intro x1 σ H locs ls hS hl h
      replace h : wpS_X5_isConsistent_7 K (wlp (wpF_X5_isConsistent_7 K) n7) x1 σ := h
      unfold wpS_X5_isConsistent_7 at h
      refine lv_iload_n hx hb ddX5_isConsistent_7 rfl (lv_at hl 1 rfl) ?_
      refine lv_aload_n hx hb ddX5_isConsistent_8 rfl (lv_at hl 0 rfl) ?_
      refine get_25_0 hx hb hown ht hK hS lk1124 ddX5_isConsistent_9 ?_
      refine lv_iconst (v := (1 : Int32)) hx hb ddX5_isConsistent_12 (by decide) ?_
      refine aldk_26 hx hb hK hS 1 (by unfold vp_in; decide) rfl ddX5_isConsistent_13 ?_
      refine lv_icmp_ge (tgt := 59) hx hb ddX5_isConsistent_14 (by decide) (fun c2 => ?_) (fun c2 => ?_)
      · replace h := h.1 c2
        refine lv_iconst (v := (1 : Int32)) hx hb ddX5_isConsistent_59 (by decide) ?_
        exact k_zret hx hb hr hlocks hK hS rfl h ddX5_isConsistent_60
      · replace h := h.2 c2
        refine lv_iconst (v := (1 : Int32)) hx hb ddX5_isConsistent_17 (by decide) ?_
        refine lv_istore_n (lv' := [(2, .int (1 : Int32)), (0, .ref (ga X 25)), (1, .int x1)]) hx hb ddX5_isConsistent_18 rfl hl (by decide) rfl (fun ls hl => ?_)
        obtain ⟨n, h⟩ := h
        exact hL19 n _ _ _ _ _ _ hS (lv_sub hl [1, 2, 0] rfl) h
  unfold wp_X5_isConsistent at h
  refine lv_aload_n hx hb ddX5_isConsistent_0 rfl (lv_at hl 0 rfl) ?_
  refine lv_iconst (v := (0 : Int32)) hx hb ddX5_isConsistent_1 (by decide) ?_
  refine put_25_7 hx hb hown ht hK hS lk1131 ddX5_isConsistent_2 (fun H locs hS => ?_)
  obtain ⟨σ1, eσ1⟩ : ∃ y : Mem, y = (st σ 25 7 (0 : Int32)) := ⟨_, rfl⟩
  rw [← eσ1] at hS
  replace h := h σ1 eσ1
  refine lv_iconst (v := (0 : Int32)) hx hb ddX5_isConsistent_5 (by decide) ?_
  refine lv_istore_n (lv' := [(1, .int (0 : Int32)), (0, .ref (ga X 25))]) hx hb ddX5_isConsistent_6 rfl hl (by decide) rfl (fun ls hl => ?_)
  obtain ⟨n, h⟩ := h
  exact hL7 n _ _ _ _ _ hS (lv_sub hl [1, 0] rfl) h

set_option maxHeartbeats 4000000 in
set_option maxRecDepth 100000 in
theorem c_X5_feed (l : Launch) (X : GX) {x1 : Int32} {σ : Mem} {K : Int32 → Mem → Prop} (h : wp_X5_feed x1 σ K) : MI l X yX5_feed cX5_feed 2 ((Option.some Jvm.ClassFile.FieldType.int)) ({ frames := 1, cells := 0, slots := 0, locals := 21 } : Room) [.ref (ga X 25), .int x1] σ K := by
  refine ent_met (QQ := fun A => va_Qi K (BW X A) A) (by decide) (Nat.le_of_ble_eq_true rfl) ?_
  intro p e s m args below meth c A ls hx hb hr hlocks hml hown ht hK hZ hA hS hl
  have hown : s.vm.findClass "GuardRosterModel" = some m.cls := hown
  have hl : lv_has ls 2 [(0, .ref (ga X 25)), (1, .int x1)] := hl
  have hJ15 : ∀ (x1 y1 : Int32) (σ : Mem) (H : Heap) (locs : List Loc) (ls : Array Slot), WS X A s.heap σ H locs → lv_has ls 2 [(0, .ref (ga X 25)), (1, .int x1)] → wpJ_X5_feed_15 K x1 y1 σ → WI X K p l e ({ frames := 1, cells := 0, slots := 0, locals := 21 } : Room) s m args below meth c A H locs (F0 m 15 ls [.int y1, .ref (ga X 25)]) := by
    intro x1 y1 σ H locs ls hS hl h
    unfold wpJ_X5_feed_15 at h
    refine k_VI (As := [.int y1]) (rest := []) (c_X5_fails l X h) mf_X5_fails lk1199 hx hb hml hown ht hK hZ hS hA 25 5 rfl rfl rfl ⟨rfl, rfl⟩ ⟨Nat.le_of_ble_eq_true rfl, Nat.le_of_ble_eq_true rfl⟩ rfl hl.1 rfl (Nat.le_of_ble_eq_true rfl) ⟨Nat.le_of_ble_eq_true rfl, Nat.le_of_ble_eq_true rfl⟩ ddX5_feed_15 (fun r3 σ2 H locs hS h => ?_)
    refine lv_if_eq (tgt := 23) hx hb ddX5_feed_18 (by decide) (fun c4 => ?_) (fun c4 => ?_)
    · replace h := h.1 c4
      refine lv_aload_n hx hb ddX5_feed_23 rfl (lv_at hl 0 rfl) ?_
      refine get_25_10 hx hb hown ht hK hS lk1134 ddX5_feed_24 ?_
      refine lv_aload_n hx hb ddX5_feed_27 rfl (lv_at hl 0 rfl) ?_
      refine get_25_11 hx hb hown ht hK hS lk1135 ddX5_feed_28 ?_
      refine lv_iload_n hx hb ddX5_feed_31 rfl (lv_at hl 1 rfl) ?_
      refine ast_30 hx hb hK hS h.1 ddX5_feed_32 (fun H locs hS => ?_)
      replace h := h.2
      obtain ⟨σ5, eσ5⟩ : ∃ y : Mem, y = (st σ2 30 (σ2 25 11).toNatClampNeg x1) := ⟨_, rfl⟩
      rw [← eσ5] at hS
      replace h := h σ5 eσ5
      refine lv_aload_n hx hb ddX5_feed_33 rfl (lv_at hl 0 rfl) ?_
      refine lv_dup hx hb ddX5_feed_34 rfl ?_
      refine get_25_11 hx hb hown ht hK hS lk1135 ddX5_feed_35 ?_
      refine lv_iconst (v := (1 : Int32)) hx hb ddX5_feed_38 (by decide) ?_
      refine lv_iadd hx hb ddX5_feed_39 ?_
      refine put_25_11 hx hb hown ht hK hS lk1135 ddX5_feed_40 (fun H locs hS => ?_)
      obtain ⟨σ6, eσ6⟩ : ∃ y : Mem, y = (st σ5 25 11 ((σ5 25 11) + (1 : Int32))) := ⟨_, rfl⟩
      rw [← eσ6] at hS
      replace h := h σ6 eσ6
      refine lv_aload_n hx hb ddX5_feed_43 rfl (lv_at hl 0 rfl) ?_
      refine get_25_11 hx hb hown ht hK hS lk1135 ddX5_feed_44 ?_
      exact k_iret hx hb hr hlocks hK hS h ddX5_feed_47
    · replace h := h.2 c4
      refine lv_iconst (v := (0 : Int32)) hx hb ddX5_feed_21 (by decide) ?_
      exact k_iret hx hb hr hlocks hK hS h ddX5_feed_22
  unfold wp_X5_feed at h
  refine lv_aload_n hx hb ddX5_feed_0 rfl (lv_at hl 0 rfl) ?_
  refine lv_aload_n hx hb ddX5_feed_1 rfl (lv_at hl 0 rfl) ?_
  refine get_25_11 hx hb hown ht hK hS lk1135 ddX5_feed_2 ?_
  refine lv_bipush (v := (60 : Int32)) hx hb ddX5_feed_5 (by decide) ?_
  refine lv_icmp_ne (tgt := 14) hx hb ddX5_feed_7 (by decide) (fun c1 => ?_) (fun c1 => ?_)
  · replace h := h.1 c1
    refine lv_iconst (v := (0 : Int32)) hx hb ddX5_feed_14 (by decide) ?_
    exact hJ15 _ _ _ _ _ _ hS (lv_sub hl [0, 1] rfl) h
  · replace h := h.2 c1
    refine lv_iconst (v := (1 : Int32)) hx hb ddX5_feed_10 (by decide) ?_
    refine lv_goto (tgt := 15) hx hb ddX5_feed_11 (by decide) ?_
    exact hJ15 _ _ _ _ _ _ hS (lv_sub hl [0, 1] rfl) h

set_option maxHeartbeats 4000000 in
set_option maxRecDepth 100000 in
theorem c_X5_here (l : Launch) (X : GX) {σ : Mem} {K : Int32 → Mem → Prop} (h : wp_X5_here σ K) : MI l X yX5_here cX5_here 1 ((Option.some Jvm.ClassFile.FieldType.int)) ({ frames := 0, cells := 0, slots := 0, locals := 0 } : Room) [.ref (ga X 25)] σ K := by
  refine ent_met (QQ := fun A => va_Qi K (BW X A) A) (by decide) (Nat.le_of_ble_eq_true rfl) ?_
  intro p e s m args below meth c A ls hx hb hr hlocks hml hown ht hK hZ hA hS hl
  have hown : s.vm.findClass "GuardRosterModel" = some m.cls := hown
  have hl : lv_has ls 1 [(0, .ref (ga X 25))] := hl
  unfold wp_X5_here at h
  refine lv_aload_n hx hb ddX5_here_0 rfl (lv_at hl 0 rfl) ?_
  refine get_25_18 hx hb hown ht hK hS lk1142 ddX5_here_1 ?_
  refine lv_aload_n hx hb ddX5_here_4 rfl (lv_at hl 0 rfl) ?_
  refine get_25_11 hx hb hown ht hK hS lk1135 ddX5_here_5 ?_
  refine lv_icmp_ge (tgt := 23) hx hb ddX5_here_8 (by decide) (fun c1 => ?_) (fun c1 => ?_)
  · replace h := h.1 c1
    refine lv_iconst (v := (-1 : Int32)) hx hb ddX5_here_23 (by decide) ?_
    exact k_iret hx hb hr hlocks hK hS h ddX5_here_24
  · replace h := h.2 c1
    refine lv_aload_n hx hb ddX5_here_11 rfl (lv_at hl 0 rfl) ?_
    refine get_25_10 hx hb hown ht hK hS lk1134 ddX5_here_12 ?_
    refine lv_aload_n hx hb ddX5_here_15 rfl (lv_at hl 0 rfl) ?_
    refine get_25_18 hx hb hown ht hK hS lk1142 ddX5_here_16 ?_
    refine ald_30 hx hb hK hS h.1 ddX5_here_19 ?_
    replace h := h.2
    refine lv_goto (tgt := 24) hx hb ddX5_here_20 (by decide) ?_
    exact k_iret hx hb hr hlocks hK hS h ddX5_here_24

set_option maxHeartbeats 4000000 in
set_option maxRecDepth 100000 in
theorem c_X5_skips (l : Launch) (X : GX) {x1 : Int32} {σ : Mem} {K : Int32 → Mem → Prop} (h : wp_X5_skips x1 σ K) : MI l X yX5_skips cX5_skips 2 ((Option.some Jvm.ClassFile.FieldType.boolean)) ({ frames := 1, cells := 0, slots := 0, locals := 20 } : Room) [.ref (ga X 25), .int x1] σ K := by
  refine ent_met (QQ := fun A => va_Qi K (BW X A) A) (by decide) (Nat.le_of_ble_eq_true rfl) ?_
  intro p e s m args below meth c A ls hx hb hr hlocks hml hown ht hK hZ hA hS hl
  have hown : s.vm.findClass "GuardRosterModel" = some m.cls := hown
  have hl : lv_has ls 2 [(0, .ref (ga X 25)), (1, .int x1)] := hl
  unfold wp_X5_skips at h
  refine lv_aload_n hx hb ddX5_skips_0 rfl (lv_at hl 0 rfl) ?_
  refine k_VI (As := []) (rest := []) (c_X5_here l X h) mf_X5_here lk1484 hx hb hml hown ht hK hZ hS hA 25 5 rfl rfl rfl ⟨rfl, rfl⟩ ⟨Nat.le_of_ble_eq_true rfl, Nat.le_of_ble_eq_true rfl⟩ rfl hl.1 rfl (Nat.le_of_ble_eq_true rfl) ⟨Nat.le_of_ble_eq_true rfl, Nat.le_of_ble_eq_true rfl⟩ ddX5_skips_1 (fun r2 σ1 H locs hS h => ?_)
  refine lv_iload_n hx hb ddX5_skips_4 rfl (lv_at hl 1 rfl) ?_
  refine lv_icmp_eq (tgt := 10) hx hb ddX5_skips_5 (by decide) (fun c3 => ?_) (fun c3 => ?_)
  · replace h := h.1 c3
    refine lv_aload_n hx hb ddX5_skips_10 rfl (lv_at hl 0 rfl) ?_
    refine lv_dup hx hb ddX5_skips_11 rfl ?_
    refine get_25_18 hx hb hown ht hK hS lk1142 ddX5_skips_12 ?_
    refine lv_iconst (v := (1 : Int32)) hx hb ddX5_skips_15 (by decide) ?_
    refine lv_iadd hx hb ddX5_skips_16 ?_
    refine put_25_18 hx hb hown ht hK hS lk1142 ddX5_skips_17 (fun H locs hS => ?_)
    obtain ⟨σ4, eσ4⟩ : ∃ y : Mem, y = (st σ1 25 18 ((σ1 25 18) + (1 : Int32))) := ⟨_, rfl⟩
    rw [← eσ4] at hS
    replace h := h σ4 eσ4
    refine lv_iconst (v := (1 : Int32)) hx hb ddX5_skips_20 (by decide) ?_
    exact k_zret hx hb hr hlocks hK hS rfl h ddX5_skips_21
  · replace h := h.2 c3
    refine lv_iconst (v := (0 : Int32)) hx hb ddX5_skips_8 (by decide) ?_
    exact k_zret hx hb hr hlocks hK hS rfl h ddX5_skips_9

set_option maxHeartbeats 4000000 in
set_option maxRecDepth 100000 in
theorem c_X5_figures (l : Launch) (X : GX) {x1 x2 x3 : Int32} {σ : Mem} {K : Int32 → Mem → Prop} (h : wp_X5_figures x1 x2 x3 σ K) : MI l X yX5_figures cX5_figures 5 ((Option.some Jvm.ClassFile.FieldType.boolean)) ({ frames := 2, cells := 0, slots := 0, locals := 41 } : Room) [.ref (ga X 25), .int x1, .int x2, .int x3] σ K := by
  refine ent_met (QQ := fun A => va_Qi K (BW X A) A) (by decide) (Nat.le_of_ble_eq_true rfl) ?_
  intro p e s m args below meth c A ls hx hb hr hlocks hml hown ht hK hZ hA hS hl
  have hown : s.vm.findClass "GuardRosterModel" = some m.cls := hown
  have hl : lv_has ls 5 [(0, .ref (ga X 25)), (1, .int x1), (2, .int x2), (3, .int x3)] := hl
  have hL34 : ∀ (n : Nat) (x2 x3 x4 : Int32) (σ : Mem) (H : Heap) (locs : List Loc) (ls : Array Slot), WS X A s.heap σ H locs → lv_has ls 5 [(0, .ref (ga X 25)), (2, .int x2), (3, .int x3), (4, .int x4)] → wlp (wpF_X5_figures_34 K) n (x2, x3, x4, σ) → WI X K p l e ({ frames := 2, cells := 0, slots := 0, locals := 41 } : Room) s m args below meth c A H locs (F0 m 34 ls []) := by
    intro n34
    induction n34 with
    | zero => intro x2 x3 x4 σ H locs ls hS hl h; exact h.elim
    | succ n34 ih34 =>
      intro x2 x3 x4 σ H locs ls hS hl h
      replace h : wpS_X5_figures_34 K (wlp (wpF_X5_figures_34 K) n34) x2 x3 x4 σ := h
      unfold wpS_X5_figures_34 at h
      refine lv_iload hx hb ddX5_figures_34 (lv_at hl 3 rfl) ?_
      refine lv_iload_n hx hb ddX5_figures_36 rfl (lv_at hl 2 rfl) ?_
      refine lv_icmp_ge (tgt := 93) hx hb ddX5_figures_37 (by decide) (fun c10 => ?_) (fun c10 => ?_)
      · replace h := h.1 c10
        refine lv_iconst (v := (1 : Int32)) hx hb ddX5_figures_93 (by decide) ?_
        exact k_zret hx hb hr hlocks hK hS rfl h ddX5_figures_94
      · replace h := h.2 c10
        refine lv_aload_n hx hb ddX5_figures_40 rfl (lv_at hl 0 rfl) ?_
        refine k_VI (As := []) (rest := []) (c_X5_here l X h) mf_X5_here lk1484 hx hb hml hown ht hK hZ hS hA 25 5 rfl rfl rfl ⟨rfl, rfl⟩ ⟨Nat.le_of_ble_eq_true rfl, Nat.le_of_ble_eq_true rfl⟩ rfl hl.1 rfl (Nat.le_of_ble_eq_true rfl) ⟨Nat.le_of_ble_eq_true rfl, Nat.le_of_ble_eq_true rfl⟩ ddX5_figures_41 (fun r12 σ11 H locs hS h => ?_)
        refine lv_bipush (v := (48 : Int32)) hx hb ddX5_figures_44 (by decide) ?_
        refine lv_bipush (v := (57 : Int32)) hx hb ddX5_figures_46 (by decide) ?_
        refine k_SI (As := [.int r12, .int (48 : Int32), .int (57 : Int32)]) (rest := []) (c_X5_in l X h) mf_X5_in lk1196 hx hb hml hown ht hK hZ hS hA ⟨rfl, rfl⟩ ⟨Nat.le_of_ble_eq_true rfl, Nat.le_of_ble_eq_true rfl⟩ rfl hl.1 rfl (Nat.le_of_ble_eq_true rfl) ⟨Nat.le_of_ble_eq_true rfl, Nat.le_of_ble_eq_true rfl⟩ ddX5_figures_48 (fun r14 σ13 H locs hS h => ?_)
        refine lv_if_eq (tgt := 93) hx hb ddX5_figures_51 (by decide) (fun c15 => ?_) (fun c15 => ?_)
        · replace h := h.1 c15
          refine lv_iconst (v := (1 : Int32)) hx hb ddX5_figures_93 (by decide) ?_
          exact k_zret hx hb hr hlocks hK hS rfl h ddX5_figures_94
        · replace h := h.2 c15
          refine lv_aload_n hx hb ddX5_figures_54 rfl (lv_at hl 0 rfl) ?_
          refine get_25_19 hx hb hown ht hK hS lk1143 ddX5_figures_55 ?_
          refine lv_iload_n hx hb ddX5_figures_58 rfl (lv_at hl 1 rfl) ?_
          refine lv_bipush (v := (10 : Int32)) hx hb ddX5_figures_59 (by decide) ?_
          refine lv_aload_n hx hb ddX5_figures_61 rfl (lv_at hl 0 rfl) ?_
          refine get_25_19 hx hb hown ht hK hS lk1143 ddX5_figures_62 ?_
          refine lv_iload_n hx hb ddX5_figures_65 rfl (lv_at hl 1 rfl) ?_
          refine ald_33 hx hb hK hS h.1 ddX5_figures_66 ?_
          replace h := h.2
          refine lv_imul hx hb ddX5_figures_67 ?_
          refine lv_aload_n hx hb ddX5_figures_68 rfl (lv_at hl 0 rfl) ?_
          refine k_VI (As := []) (rest := [.int ((10 : Int32) * (σ13 33 x2.toNatClampNeg)), .int x2, .ref (ga X 33)]) (c_X5_here l X h) mf_X5_here lk1484 hx hb hml hown ht hK hZ hS hA 25 5 rfl rfl rfl ⟨rfl, rfl⟩ ⟨Nat.le_of_ble_eq_true rfl, Nat.le_of_ble_eq_true rfl⟩ rfl hl.1 rfl (Nat.le_of_ble_eq_true rfl) ⟨Nat.le_of_ble_eq_true rfl, Nat.le_of_ble_eq_true rfl⟩ ddX5_figures_69 (fun r17 σ16 H locs hS h => ?_)
          refine lv_iadd hx hb ddX5_figures_72 ?_
          refine lv_bipush (v := (48 : Int32)) hx hb ddX5_figures_73 (by decide) ?_
          refine lv_isub hx hb ddX5_figures_75 ?_
          refine ast_33 hx hb hK hS h.1 ddX5_figures_76 (fun H locs hS => ?_)
          replace h := h.2
          obtain ⟨σ18, eσ18⟩ : ∃ y : Mem, y = (st σ16 33 x2.toNatClampNeg ((((10 : Int32) * (σ13 33 x2.toNatClampNeg)) + r17) - (48 : Int32))) := ⟨_, rfl⟩
          rw [← eσ18] at hS
          replace h := h σ18 eσ18
          refine lv_aload_n hx hb ddX5_figures_77 rfl (lv_at hl 0 rfl) ?_
          refine lv_dup hx hb ddX5_figures_78 rfl ?_
          refine get_25_18 hx hb hown ht hK hS lk1142 ddX5_figures_79 ?_
          refine lv_iconst (v := (1 : Int32)) hx hb ddX5_figures_82 (by decide) ?_
          refine lv_iadd hx hb ddX5_figures_83 ?_
          refine put_25_18 hx hb hown ht hK hS lk1142 ddX5_figures_84 (fun H locs hS => ?_)
          obtain ⟨σ19, eσ19⟩ : ∃ y : Mem, y = (st σ18 25 18 ((σ18 25 18) + (1 : Int32))) := ⟨_, rfl⟩
          rw [← eσ19] at hS
          replace h := h σ19 eσ19
          obtain ⟨v20, ev20⟩ : ∃ y : Int32, y = x4 + (1 : Int32) := ⟨_, rfl⟩
          replace h := h v20 ev20
          refine lv_iinc (v := v20) (lv' := [(4, .int v20), (0, .ref (ga X 25)), (2, .int x2), (3, .int x3)]) hx hb ddX5_figures_87 hl (k := 3) rfl (by rw [ev20]; rfl) (by decide) rfl (fun ls hl => ?_)
          refine lv_goto (tgt := 34) hx hb ddX5_figures_90 (by decide) ?_
          exact ih34 _ _ _ _ _ _ _ hS (lv_sub hl [1, 2, 3, 0] rfl) h
  unfold wp_X5_figures at h
  refine lv_aload_n hx hb ddX5_figures_0 rfl (lv_at hl 0 rfl) ?_
  refine lv_iload_n hx hb ddX5_figures_1 rfl (lv_at hl 1 rfl) ?_
  refine k_VI (As := [.int x1]) (rest := []) (c_X5_skips l X h) mf_X5_skips lk1480 hx hb hml hown ht hK hZ hS hA 25 5 rfl rfl rfl ⟨rfl, rfl⟩ ⟨Nat.le_of_ble_eq_true rfl, Nat.le_of_ble_eq_true rfl⟩ rfl hl.1 rfl (Nat.le_of_ble_eq_true rfl) ⟨Nat.le_of_ble_eq_true rfl, Nat.le_of_ble_eq_true rfl⟩ ddX5_figures_2 (fun r2 σ1 H locs hS h => ?_)
  refine lv_if_eq (tgt := 22) hx hb ddX5_figures_5 (by decide) (fun c3 => ?_) (fun c3 => ?_)
  · replace h := h.1 c3
    refine lv_iconst (v := (0 : Int32)) hx hb ddX5_figures_22 (by decide) ?_
    exact k_zret hx hb hr hlocks hK hS rfl h ddX5_figures_23
  · replace h := h.2 c3
    refine lv_aload_n hx hb ddX5_figures_8 rfl (lv_at hl 0 rfl) ?_
    refine k_VI (As := []) (rest := []) (c_X5_here l X h) mf_X5_here lk1484 hx hb hml hown ht hK hZ hS hA 25 5 rfl rfl rfl ⟨rfl, rfl⟩ ⟨Nat.le_of_ble_eq_true rfl, Nat.le_of_ble_eq_true rfl⟩ rfl hl.1 rfl (Nat.le_of_ble_eq_true rfl) ⟨Nat.le_of_ble_eq_true rfl, Nat.le_of_ble_eq_true rfl⟩ ddX5_figures_9 (fun r5 σ4 H locs hS h => ?_)
    refine lv_bipush (v := (48 : Int32)) hx hb ddX5_figures_12 (by decide) ?_
    refine lv_bipush (v := (57 : Int32)) hx hb ddX5_figures_14 (by decide) ?_
    refine k_SI (As := [.int r5, .int (48 : Int32), .int (57 : Int32)]) (rest := []) (c_X5_in l X h) mf_X5_in lk1196 hx hb hml hown ht hK hZ hS hA ⟨rfl, rfl⟩ ⟨Nat.le_of_ble_eq_true rfl, Nat.le_of_ble_eq_true rfl⟩ rfl hl.1 rfl (Nat.le_of_ble_eq_true rfl) ⟨Nat.le_of_ble_eq_true rfl, Nat.le_of_ble_eq_true rfl⟩ ddX5_figures_16 (fun r7 σ6 H locs hS h => ?_)
    refine lv_if_ne (tgt := 24) hx hb ddX5_figures_19 (by decide) (fun c8 => ?_) (fun c8 => ?_)
    · replace h := h.1 c8
      refine lv_aload_n hx hb ddX5_figures_24 rfl (lv_at hl 0 rfl) ?_
      refine get_25_19 hx hb hown ht hK hS lk1143 ddX5_figures_25 ?_
      refine lv_iload_n hx hb ddX5_figures_28 rfl (lv_at hl 2 rfl) ?_
      refine lv_iconst (v := (0 : Int32)) hx hb ddX5_figures_29 (by decide) ?_
      refine ast_33 hx hb hK hS h.1 ddX5_figures_30 (fun H locs hS => ?_)
      replace h := h.2
      obtain ⟨σ9, eσ9⟩ : ∃ y : Mem, y = (st σ6 33 x2.toNatClampNeg (0 : Int32)) := ⟨_, rfl⟩
      rw [← eσ9] at hS
      replace h := h σ9 eσ9
      refine lv_iconst (v := (0 : Int32)) hx hb ddX5_figures_31 (by decide) ?_
      refine lv_istore (lv' := [(4, .int (0 : Int32)), (0, .ref (ga X 25)), (1, .int x1), (2, .int x2), (3, .int x3)]) hx hb ddX5_figures_32 hl (by decide) rfl (fun ls hl => ?_)
      obtain ⟨n, h⟩ := h
      exact hL34 n _ _ _ _ _ _ _ hS (lv_sub hl [1, 3, 4, 0] rfl) h
    · replace h := h.2 c8
      refine lv_iconst (v := (0 : Int32)) hx hb ddX5_figures_22 (by decide) ?_
      exact k_zret hx hb hr hlocks hK hS rfl h ddX5_figures_23

set_option maxHeartbeats 4000000 in
set_option maxRecDepth 100000 in
theorem c_X5_carries (l : Launch) (X : GX) {x1 : Int32} {σ : Mem} {K : Int32 → Mem → Prop} (h : wp_X5_carries x1 σ K) : MI l X yX5_carries cX5_carries 5 ((Option.some Jvm.ClassFile.FieldType.int)) ({ frames := 6, cells := 0, slots := 0, locals := 137 } : Room) [.ref (ga X 25), .int x1] σ K := by
  refine ent_met (QQ := fun A => va_Qi K (BW X A) A) (by decide) (Nat.le_of_ble_eq_true rfl) ?_
  intro p e s m args below meth c A ls hx hb hr hlocks hml hown ht hK hZ hA hS hl
  have hown : s.vm.findClass "GuardRosterModel" = some m.cls := hown
  have hl : lv_has ls 5 [(0, .ref (ga X 25)), (1, .int x1)] := hl
  unfold wp_X5_carries at h
  refine lv_aload_n hx hb ddX5_carries_0 rfl (lv_at hl 0 rfl) ?_
  refine get_25_19 hx hb hown ht hK hS lk1143 ddX5_carries_1 ?_
  refine lv_iload_n hx hb ddX5_carries_4 rfl (lv_at hl 1 rfl) ?_
  refine lv_iconst (v := (1 : Int32)) hx hb ddX5_carries_5 (by decide) ?_
  refine lv_iadd hx hb ddX5_carries_6 ?_
  refine ald_33 hx hb hK hS h.1 ddX5_carries_7 ?_
  replace h := h.2
  refine lv_topi (fun v1 ev1 => ?_)
  replace h := h v1 ev1
  refine lv_istore_n (lv' := [(2, .int v1), (0, .ref (ga X 25)), (1, .int x1)]) hx hb ddX5_carries_8 rfl hl (by decide) rfl (fun ls hl => ?_)
  refine lv_aload_n hx hb ddX5_carries_9 rfl (lv_at hl 1 rfl) ?_
  refine get_25_19 hx hb hown ht hK hS lk1143 ddX5_carries_10 ?_
  refine lv_iload_n hx hb ddX5_carries_13 rfl (lv_at hl 2 rfl) ?_
  refine lv_iconst (v := (2 : Int32)) hx hb ddX5_carries_14 (by decide) ?_
  refine lv_iadd hx hb ddX5_carries_15 ?_
  refine ald_33 hx hb hK hS h.1 ddX5_carries_16 ?_
  replace h := h.2
  refine lv_topi (fun v2 ev2 => ?_)
  replace h := h v2 ev2
  refine lv_istore_n (lv' := [(3, .int v2), (2, .int v1), (0, .ref (ga X 25)), (1, .int x1)]) hx hb ddX5_carries_17 rfl hl (by decide) rfl (fun ls hl => ?_)
  refine lv_aload_n hx hb ddX5_carries_18 rfl (lv_at hl 2 rfl) ?_
  refine get_25_19 hx hb hown ht hK hS lk1143 ddX5_carries_19 ?_
  refine lv_iload_n hx hb ddX5_carries_22 rfl (lv_at hl 3 rfl) ?_
  refine lv_iconst (v := (3 : Int32)) hx hb ddX5_carries_23 (by decide) ?_
  refine lv_iadd hx hb ddX5_carries_24 ?_
  refine ald_33 hx hb hK hS h.1 ddX5_carries_25 ?_
  replace h := h.2
  refine lv_topi (fun v3 ev3 => ?_)
  replace h := h v3 ev3
  refine lv_istore (lv' := [(4, .int v3), (3, .int v2), (2, .int v1), (0, .ref (ga X 25)), (1, .int x1)]) hx hb ddX5_carries_26 hl (by decide) rfl (fun ls hl => ?_)
  refine lv_aload_n hx hb ddX5_carries_28 rfl (lv_at hl 3 rfl) ?_
  refine get_25_19 hx hb hown ht hK hS lk1143 ddX5_carries_29 ?_
  refine lv_iload_n hx hb ddX5_carries_32 rfl (lv_at hl 4 rfl) ?_
  refine ald_33 hx hb hK hS h.1 ddX5_carries_33 ?_
  replace h := h.2
  refine lv_topi (fun v4 ev4 => ?_)
  replace h := h v4 ev4
  by_cases c7 : v4 = (0 : Int32)
  · refine lv_tableIn (off := 42) (tgt := 76) hx hb ddX5_carries_34 (by rw [c7]; decide) (by rw [c7]; decide) (by rw [c7]; rfl) (by decide) ?_
    replace h := h.1 c7
    refine lv_aload_n hx hb ddX5_carries_76 rfl (lv_at hl 3 rfl) ?_
    refine lv_iload_n hx hb ddX5_carries_77 rfl (lv_at hl 2 rfl) ?_
    refine k_VI (As := [.int v1]) (rest := []) (c_X5_addGate l X h) mf_X5_addGate lk1518 hx hb hml hown ht hK hZ hS hA 25 5 rfl rfl rfl ⟨rfl, rfl⟩ ⟨Nat.le_of_ble_eq_true rfl, Nat.le_of_ble_eq_true rfl⟩ rfl hl.1 rfl (Nat.le_of_ble_eq_true rfl) ⟨Nat.le_of_ble_eq_true rfl, Nat.le_of_ble_eq_true rfl⟩ ddX5_carries_78 (fun r6 σ5 H locs hS h => ?_)
    exact k_iret hx hb hr hlocks hK hS h ddX5_carries_81
  replace h := h.2
  by_cases c10 : v4 = (1 : Int32)
  · refine lv_tableIn (off := 48) (tgt := 82) hx hb ddX5_carries_34 (by rw [c10]; decide) (by rw [c10]; decide) (by rw [c10]; rfl) (by decide) ?_
    replace h := h.1 c10
    refine lv_aload_n hx hb ddX5_carries_82 rfl (lv_at hl 3 rfl) ?_
    refine lv_iload_n hx hb ddX5_carries_83 rfl (lv_at hl 2 rfl) ?_
    refine k_VI (As := [.int v1]) (rest := []) (c_X5_addGuard l X h) mf_X5_addGuard lk1519 hx hb hml hown ht hK hZ hS hA 25 5 rfl rfl rfl ⟨rfl, rfl⟩ ⟨Nat.le_of_ble_eq_true rfl, Nat.le_of_ble_eq_true rfl⟩ rfl hl.1 rfl (Nat.le_of_ble_eq_true rfl) ⟨Nat.le_of_ble_eq_true rfl, Nat.le_of_ble_eq_true rfl⟩ ddX5_carries_84 (fun r9 σ8 H locs hS h => ?_)
    exact k_iret hx hb hr hlocks hK hS h ddX5_carries_87
  replace h := h.2
  by_cases c13 : v4 = (2 : Int32)
  · refine lv_tableIn (off := 54) (tgt := 88) hx hb ddX5_carries_34 (by rw [c13]; decide) (by rw [c13]; decide) (by rw [c13]; rfl) (by decide) ?_
    replace h := h.1 c13
    refine lv_aload_n hx hb ddX5_carries_88 rfl (lv_at hl 3 rfl) ?_
    refine lv_iload_n hx hb ddX5_carries_89 rfl (lv_at hl 2 rfl) ?_
    refine lv_iload_n hx hb ddX5_carries_90 rfl (lv_at hl 1 rfl) ?_
    refine lv_iload hx hb ddX5_carries_91 (lv_at hl 0 rfl) ?_
    refine k_VI (As := [.int v1, .int v2, .int v3]) (rest := []) (c_X5_assign l X h) mf_X5_assign lk1520 hx hb hml hown ht hK hZ hS hA 25 5 rfl rfl rfl ⟨rfl, rfl⟩ ⟨Nat.le_of_ble_eq_true rfl, Nat.le_of_ble_eq_true rfl⟩ rfl hl.1 rfl (Nat.le_of_ble_eq_true rfl) ⟨Nat.le_of_ble_eq_true rfl, Nat.le_of_ble_eq_true rfl⟩ ddX5_carries_93 (fun r12 σ11 H locs hS h => ?_)
    exact k_iret hx hb hr hlocks hK hS h ddX5_carries_96
  replace h := h.2
  by_cases c16 : v4 = (3 : Int32)
  · refine lv_tableIn (off := 63) (tgt := 97) hx hb ddX5_carries_34 (by rw [c16]; decide) (by rw [c16]; decide) (by rw [c16]; rfl) (by decide) ?_
    replace h := h.1 c16
    refine lv_aload_n hx hb ddX5_carries_97 rfl (lv_at hl 3 rfl) ?_
    refine lv_iload_n hx hb ddX5_carries_98 rfl (lv_at hl 2 rfl) ?_
    refine lv_iload_n hx hb ddX5_carries_99 rfl (lv_at hl 1 rfl) ?_
    refine k_VI (As := [.int v1, .int v2]) (rest := []) (c_X5_remove l X h) mf_X5_remove lk1521 hx hb hml hown ht hK hZ hS hA 25 5 rfl rfl rfl ⟨rfl, rfl⟩ ⟨Nat.le_of_ble_eq_true rfl, Nat.le_of_ble_eq_true rfl⟩ rfl hl.1 rfl (Nat.le_of_ble_eq_true rfl) ⟨Nat.le_of_ble_eq_true rfl, Nat.le_of_ble_eq_true rfl⟩ ddX5_carries_100 (fun r15 σ14 H locs hS h => ?_)
    exact k_iret hx hb hr hlocks hK hS h ddX5_carries_103
  replace h := h.2
  by_cases c19 : v4 = (4 : Int32)
  · refine lv_tableIn (off := 70) (tgt := 104) hx hb ddX5_carries_34 (by rw [c19]; decide) (by rw [c19]; decide) (by rw [c19]; rfl) (by decide) ?_
    replace h := h.1 c19
    refine lv_aload_n hx hb ddX5_carries_104 rfl (lv_at hl 3 rfl) ?_
    refine lv_iload_n hx hb ddX5_carries_105 rfl (lv_at hl 2 rfl) ?_
    refine lv_iload_n hx hb ddX5_carries_106 rfl (lv_at hl 1 rfl) ?_
    refine lv_iload hx hb ddX5_carries_107 (lv_at hl 0 rfl) ?_
    refine k_VI (As := [.int v1, .int v2, .int v3]) (rest := []) (c_X5_grantLeave l X h) mf_X5_grantLeave lk1522 hx hb hml hown ht hK hZ hS hA 25 5 rfl rfl rfl ⟨rfl, rfl⟩ ⟨Nat.le_of_ble_eq_true rfl, Nat.le_of_ble_eq_true rfl⟩ rfl hl.1 rfl (Nat.le_of_ble_eq_true rfl) ⟨Nat.le_of_ble_eq_true rfl, Nat.le_of_ble_eq_true rfl⟩ ddX5_carries_109 (fun r18 σ17 H locs hS h => ?_)
    exact k_iret hx hb hr hlocks hK hS h ddX5_carries_112
  replace h := h.2
  by_cases c22 : v4 = (5 : Int32)
  · refine lv_tableIn (off := 79) (tgt := 113) hx hb ddX5_carries_34 (by rw [c22]; decide) (by rw [c22]; decide) (by rw [c22]; rfl) (by decide) ?_
    replace h := h.1 c22
    refine lv_aload_n hx hb ddX5_carries_113 rfl (lv_at hl 3 rfl) ?_
    refine lv_iload_n hx hb ddX5_carries_114 rfl (lv_at hl 2 rfl) ?_
    refine k_VI (As := [.int v1]) (rest := []) (c_X5_fillSlot l X h) mf_X5_fillSlot lk1523 hx hb hml hown ht hK hZ hS hA 25 5 rfl rfl rfl ⟨rfl, rfl⟩ ⟨Nat.le_of_ble_eq_true rfl, Nat.le_of_ble_eq_true rfl⟩ rfl hl.1 rfl (Nat.le_of_ble_eq_true rfl) ⟨Nat.le_of_ble_eq_true rfl, Nat.le_of_ble_eq_true rfl⟩ ddX5_carries_115 (fun r21 σ20 H locs hS h => ?_)
    exact k_iret hx hb hr hlocks hK hS h ddX5_carries_118
  replace h := h.2
  by_cases c25 : v4 = (6 : Int32)
  · refine lv_tableIn (off := 85) (tgt := 119) hx hb ddX5_carries_34 (by rw [c25]; decide) (by rw [c25]; decide) (by rw [c25]; rfl) (by decide) ?_
    replace h := h.1 c25
    refine lv_aload_n hx hb ddX5_carries_119 rfl (lv_at hl 3 rfl) ?_
    refine lv_iload_n hx hb ddX5_carries_120 rfl (lv_at hl 2 rfl) ?_
    refine k_VI (As := [.int v1]) (rest := []) (c_X5_addRations l X h) mf_X5_addRations lk1524 hx hb hml hown ht hK hZ hS hA 25 5 rfl rfl rfl ⟨rfl, rfl⟩ ⟨Nat.le_of_ble_eq_true rfl, Nat.le_of_ble_eq_true rfl⟩ rfl hl.1 rfl (Nat.le_of_ble_eq_true rfl) ⟨Nat.le_of_ble_eq_true rfl, Nat.le_of_ble_eq_true rfl⟩ ddX5_carries_121 (fun r24 σ23 H locs hS h => ?_)
    exact k_iret hx hb hr hlocks hK hS h ddX5_carries_124
  replace h := h.2
  refine lv_tableOut (tgt := 125) hx hb ddX5_carries_34 (by have := ne_toInt c7 (a := 0) rfl; have := ne_toInt c10 (a := 1) rfl; have := ne_toInt c13 (a := 2) rfl; have := ne_toInt c16 (a := 3) rfl; have := ne_toInt c19 (a := 4) rfl; have := ne_toInt c22 (a := 5) rfl; have := ne_toInt c25 (a := 6) rfl; omega) (by decide) ?_
  replace h := h c7 c10 c13 c16 c19 c22 c25
  refine lv_aload_n hx hb ddX5_carries_125 rfl (lv_at hl 3 rfl) ?_
  refine lv_iload_n hx hb ddX5_carries_126 rfl (lv_at hl 2 rfl) ?_
  refine k_VI (As := [.int v1]) (rest := []) (c_X5_passSlots l X h) mf_X5_passSlots lk1525 hx hb hml hown ht hK hZ hS hA 25 5 rfl rfl rfl ⟨rfl, rfl⟩ ⟨Nat.le_of_ble_eq_true rfl, Nat.le_of_ble_eq_true rfl⟩ rfl hl.1 rfl (Nat.le_of_ble_eq_true rfl) ⟨Nat.le_of_ble_eq_true rfl, Nat.le_of_ble_eq_true rfl⟩ ddX5_carries_127 (fun r27 σ26 H locs hS h => ?_)
  exact k_iret hx hb hr hlocks hK hS h ddX5_carries_130

set_option maxHeartbeats 4000000 in
set_option maxRecDepth 100000 in
theorem c_X5_errorPosition (l : Launch) (X : GX) {σ : Mem} {K : Int32 → Mem → Prop} (h : wp_X5_errorPosition σ K) : MI l X yX5_errorPosition cX5_errorPosition 1 ((Option.some Jvm.ClassFile.FieldType.int)) ({ frames := 1, cells := 0, slots := 0, locals := 21 } : Room) [.ref (ga X 25)] σ K := by
  refine ent_met (QQ := fun A => va_Qi K (BW X A) A) (by decide) (Nat.le_of_ble_eq_true rfl) ?_
  intro p e s m args below meth c A ls hx hb hr hlocks hml hown ht hK hZ hA hS hl
  have hown : s.vm.findClass "GuardRosterModel" = some m.cls := hown
  have hl : lv_has ls 1 [(0, .ref (ga X 25))] := hl
  have hJ13 : ∀ (y1 : Int32) (σ : Mem) (H : Heap) (locs : List Loc) (ls : Array Slot), WS X A s.heap σ H locs → lv_has ls 1 [(0, .ref (ga X 25))] → wpJ_X5_errorPosition_13 K y1 σ → WI X K p l e ({ frames := 1, cells := 0, slots := 0, locals := 21 } : Room) s m args below meth c A H locs (F0 m 13 ls [.int y1, .ref (ga X 25)]) := by
    intro y1 σ H locs ls hS hl h
    unfold wpJ_X5_errorPosition_13 at h
    refine k_VI (As := [.int y1]) (rest := []) (c_X5_fails l X h) mf_X5_fails lk1199 hx hb hml hown ht hK hZ hS hA 25 5 rfl rfl rfl ⟨rfl, rfl⟩ ⟨Nat.le_of_ble_eq_true rfl, Nat.le_of_ble_eq_true rfl⟩ rfl hl.1 rfl (Nat.le_of_ble_eq_true rfl) ⟨Nat.le_of_ble_eq_true rfl, Nat.le_of_ble_eq_true rfl⟩ ddX5_errorPosition_13 (fun r3 σ2 H locs hS h => ?_)
    refine lv_if_eq (tgt := 23) hx hb ddX5_errorPosition_16 (by decide) (fun c4 => ?_) (fun c4 => ?_)
    · replace h := h.1 c4
      refine lv_aload_n hx hb ddX5_errorPosition_23 rfl (lv_at hl 0 rfl) ?_
      refine get_25_12 hx hb hown ht hK hS lk1136 ddX5_errorPosition_24 ?_
      exact k_iret hx hb hr hlocks hK hS h ddX5_errorPosition_27
    · replace h := h.2 c4
      refine lv_iconst (v := (0 : Int32)) hx hb ddX5_errorPosition_19 (by decide) ?_
      refine lv_goto (tgt := 27) hx hb ddX5_errorPosition_20 (by decide) ?_
      exact k_iret hx hb hr hlocks hK hS h ddX5_errorPosition_27
  unfold wp_X5_errorPosition at h
  refine lv_aload_n hx hb ddX5_errorPosition_0 rfl (lv_at hl 0 rfl) ?_
  refine lv_aload_n hx hb ddX5_errorPosition_1 rfl (lv_at hl 0 rfl) ?_
  refine get_25_12 hx hb hown ht hK hS lk1136 ddX5_errorPosition_2 ?_
  refine lv_if_ge (tgt := 12) hx hb ddX5_errorPosition_5 (by decide) (fun c1 => ?_) (fun c1 => ?_)
  · replace h := h.1 c1
    refine lv_iconst (v := (0 : Int32)) hx hb ddX5_errorPosition_12 (by decide) ?_
    exact hJ13 _ _ _ _ _ hS (lv_sub hl [0] rfl) h
  · replace h := h.2 c1
    refine lv_iconst (v := (1 : Int32)) hx hb ddX5_errorPosition_8 (by decide) ?_
    refine lv_goto (tgt := 13) hx hb ddX5_errorPosition_9 (by decide) ?_
    exact hJ13 _ _ _ _ _ hS (lv_sub hl [0] rfl) h

set_option maxHeartbeats 4000000 in
set_option maxRecDepth 100000 in
theorem c_X5_failedCommand (l : Launch) (X : GX) {σ : Mem} {K : Int32 → Mem → Prop} (h : wp_X5_failedCommand σ K) : MI l X yX5_failedCommand cX5_failedCommand 1 ((Option.some Jvm.ClassFile.FieldType.int)) ({ frames := 1, cells := 0, slots := 0, locals := 21 } : Room) [.ref (ga X 25)] σ K := by
  refine ent_met (QQ := fun A => va_Qi K (BW X A) A) (by decide) (Nat.le_of_ble_eq_true rfl) ?_
  intro p e s m args below meth c A ls hx hb hr hlocks hml hown ht hK hZ hA hS hl
  have hown : s.vm.findClass "GuardRosterModel" = some m.cls := hown
  have hl : lv_has ls 1 [(0, .ref (ga X 25))] := hl
  have hJ13 : ∀ (y1 : Int32) (σ : Mem) (H : Heap) (locs : List Loc) (ls : Array Slot), WS X A s.heap σ H locs → lv_has ls 1 [(0, .ref (ga X 25))] → wpJ_X5_failedCommand_13 K y1 σ → WI X K p l e ({ frames := 1, cells := 0, slots := 0, locals := 21 } : Room) s m args below meth c A H locs (F0 m 13 ls [.int y1, .ref (ga X 25)]) := by
    intro y1 σ H locs ls hS hl h
    unfold wpJ_X5_failedCommand_13 at h
    refine k_VI (As := [.int y1]) (rest := []) (c_X5_fails l X h) mf_X5_fails lk1199 hx hb hml hown ht hK hZ hS hA 25 5 rfl rfl rfl ⟨rfl, rfl⟩ ⟨Nat.le_of_ble_eq_true rfl, Nat.le_of_ble_eq_true rfl⟩ rfl hl.1 rfl (Nat.le_of_ble_eq_true rfl) ⟨Nat.le_of_ble_eq_true rfl, Nat.le_of_ble_eq_true rfl⟩ ddX5_failedCommand_13 (fun r3 σ2 H locs hS h => ?_)
    refine lv_if_eq (tgt := 23) hx hb ddX5_failedCommand_16 (by decide) (fun c4 => ?_) (fun c4 => ?_)
    · replace h := h.1 c4
      refine lv_aload_n hx hb ddX5_failedCommand_23 rfl (lv_at hl 0 rfl) ?_
      refine get_25_13 hx hb hown ht hK hS lk1137 ddX5_failedCommand_24 ?_
      exact k_iret hx hb hr hlocks hK hS h ddX5_failedCommand_27
    · replace h := h.2 c4
      refine lv_iconst (v := (0 : Int32)) hx hb ddX5_failedCommand_19 (by decide) ?_
      refine lv_goto (tgt := 27) hx hb ddX5_failedCommand_20 (by decide) ?_
      exact k_iret hx hb hr hlocks hK hS h ddX5_failedCommand_27
  unfold wp_X5_failedCommand at h
  refine lv_aload_n hx hb ddX5_failedCommand_0 rfl (lv_at hl 0 rfl) ?_
  refine lv_aload_n hx hb ddX5_failedCommand_1 rfl (lv_at hl 0 rfl) ?_
  refine get_25_13 hx hb hown ht hK hS lk1137 ddX5_failedCommand_2 ?_
  refine lv_if_ge (tgt := 12) hx hb ddX5_failedCommand_5 (by decide) (fun c1 => ?_) (fun c1 => ?_)
  · replace h := h.1 c1
    refine lv_iconst (v := (0 : Int32)) hx hb ddX5_failedCommand_12 (by decide) ?_
    exact hJ13 _ _ _ _ _ hS (lv_sub hl [0] rfl) h
  · replace h := h.2 c1
    refine lv_iconst (v := (1 : Int32)) hx hb ddX5_failedCommand_8 (by decide) ?_
    refine lv_goto (tgt := 13) hx hb ddX5_failedCommand_9 (by decide) ?_
    exact hJ13 _ _ _ _ _ hS (lv_sub hl [0] rfl) h

set_option maxHeartbeats 4000000 in
set_option maxRecDepth 100000 in
theorem c_X5_undo (l : Launch) (X : GX) {σ : Mem} {K : Int32 → Mem → Prop} (h : wp_X5_undo σ K) : MI l X yX5_undo cX5_undo 1 ((Option.some Jvm.ClassFile.FieldType.int)) ({ frames := 1, cells := 0, slots := 0, locals := 24 } : Room) [.ref (ga X 25)] σ K := by
  refine ent_met (QQ := fun A => va_Qi K (BW X A) A) (by decide) (Nat.le_of_ble_eq_true rfl) ?_
  intro p e s m args below meth c A ls hx hb hr hlocks hml hown ht hK hZ hA hS hl
  have hown : s.vm.findClass "GuardRosterModel" = some m.cls := hown
  have hl : lv_has ls 1 [(0, .ref (ga X 25))] := hl
  have hJ13 : ∀ (y1 : Int32) (σ : Mem) (H : Heap) (locs : List Loc) (ls : Array Slot), WS X A s.heap σ H locs → lv_has ls 1 [(0, .ref (ga X 25))] → wpJ_X5_undo_13 K y1 σ → WI X K p l e ({ frames := 1, cells := 0, slots := 0, locals := 24 } : Room) s m args below meth c A H locs (F0 m 13 ls [.int y1, .ref (ga X 25)]) := by
    intro y1 σ H locs ls hS hl h
    unfold wpJ_X5_undo_13 at h
    refine k_VI (As := [.int y1]) (rest := []) (c_X5_fails l X h) mf_X5_fails lk1199 hx hb hml hown ht hK hZ hS hA 25 5 rfl rfl rfl ⟨rfl, rfl⟩ ⟨Nat.le_of_ble_eq_true rfl, Nat.le_of_ble_eq_true rfl⟩ rfl hl.1 rfl (Nat.le_of_ble_eq_true rfl) ⟨Nat.le_of_ble_eq_true rfl, Nat.le_of_ble_eq_true rfl⟩ ddX5_undo_13 (fun r3 σ2 H locs hS h => ?_)
    refine lv_if_eq (tgt := 21) hx hb ddX5_undo_16 (by decide) (fun c4 => ?_) (fun c4 => ?_)
    · replace h := h.1 c4
      refine lv_aload_n hx hb ddX5_undo_21 rfl (lv_at hl 0 rfl) ?_
      refine lv_dup hx hb ddX5_undo_22 rfl ?_
      refine get_25_5 hx hb hown ht hK hS lk1129 ddX5_undo_23 ?_
      refine lv_iconst (v := (1 : Int32)) hx hb ddX5_undo_26 (by decide) ?_
      refine lv_isub hx hb ddX5_undo_27 ?_
      refine put_25_5 hx hb hown ht hK hS lk1129 ddX5_undo_28 (fun H locs hS => ?_)
      obtain ⟨σ5, eσ5⟩ : ∃ y : Mem, y = (st σ2 25 5 ((σ2 25 5) - (1 : Int32))) := ⟨_, rfl⟩
      rw [← eσ5] at hS
      replace h := h σ5 eσ5
      refine lv_aload_n hx hb ddX5_undo_31 rfl (lv_at hl 0 rfl) ?_
      refine get_25_1 hx hb hown ht hK hS lk1125 ddX5_undo_32 ?_
      refine lv_sipush (v := (179 : Int32)) hx hb ddX5_undo_35 (by decide) ?_
      refine lv_aload_n hx hb ddX5_undo_38 rfl (lv_at hl 0 rfl) ?_
      refine get_25_5 hx hb hown ht hK hS lk1129 ddX5_undo_39 ?_
      refine lv_imul hx hb ddX5_undo_42 ?_
      refine lv_aload_n hx hb ddX5_undo_43 rfl (lv_at hl 0 rfl) ?_
      refine get_25_0 hx hb hown ht hK hS lk1124 ddX5_undo_44 ?_
      refine lv_iconst (v := (0 : Int32)) hx hb ddX5_undo_47 (by decide) ?_
      refine k_SV (As := [.ref (ga X 27), .int ((179 : Int32) * (σ5 25 5)), .ref (ga X 26), .int (0 : Int32)]) (rest := []) (c_X5_copies_27_26 l X h) mf_X5_copies lk1207 hx hb hml hown ht hK hZ hS hA ⟨rfl, rfl⟩ ⟨Nat.le_of_ble_eq_true rfl, Nat.le_of_ble_eq_true rfl⟩ rfl hl.1 rfl (Nat.le_of_ble_eq_true rfl) ⟨Nat.le_of_ble_eq_true rfl, Nat.le_of_ble_eq_true rfl⟩ ddX5_undo_48 (fun σ6 H locs hS h => ?_)
      refine lv_aload_n hx hb ddX5_undo_51 rfl (lv_at hl 0 rfl) ?_
      refine get_25_5 hx hb hown ht hK hS lk1129 ddX5_undo_52 ?_
      exact k_iret hx hb hr hlocks hK hS h ddX5_undo_55
    · replace h := h.2 c4
      refine lv_iconst (v := (0 : Int32)) hx hb ddX5_undo_19 (by decide) ?_
      exact k_iret hx hb hr hlocks hK hS h ddX5_undo_20
  unfold wp_X5_undo at h
  refine lv_aload_n hx hb ddX5_undo_0 rfl (lv_at hl 0 rfl) ?_
  refine lv_aload_n hx hb ddX5_undo_1 rfl (lv_at hl 0 rfl) ?_
  refine get_25_5 hx hb hown ht hK hS lk1129 ddX5_undo_2 ?_
  refine lv_if_ne (tgt := 12) hx hb ddX5_undo_5 (by decide) (fun c1 => ?_) (fun c1 => ?_)
  · replace h := h.1 c1
    refine lv_iconst (v := (0 : Int32)) hx hb ddX5_undo_12 (by decide) ?_
    exact hJ13 _ _ _ _ _ hS (lv_sub hl [0] rfl) h
  · replace h := h.2 c1
    refine lv_iconst (v := (1 : Int32)) hx hb ddX5_undo_8 (by decide) ?_
    refine lv_goto (tgt := 13) hx hb ddX5_undo_9 (by decide) ?_
    exact hJ13 _ _ _ _ _ hS (lv_sub hl [0] rfl) h

set_option maxHeartbeats 4000000 in
set_option maxRecDepth 100000 in
theorem c_X5_undoCount (l : Launch) (X : GX) {σ : Mem} {K : Int32 → Mem → Prop} (h : wp_X5_undoCount σ K) : MI l X yX5_undoCount cX5_undoCount 1 ((Option.some Jvm.ClassFile.FieldType.int)) ({ frames := 0, cells := 0, slots := 0, locals := 0 } : Room) [.ref (ga X 25)] σ K := by
  refine ent_met (QQ := fun A => va_Qi K (BW X A) A) (by decide) (Nat.le_of_ble_eq_true rfl) ?_
  intro p e s m args below meth c A ls hx hb hr hlocks hml hown ht hK hZ hA hS hl
  have hown : s.vm.findClass "GuardRosterModel" = some m.cls := hown
  have hl : lv_has ls 1 [(0, .ref (ga X 25))] := hl
  unfold wp_X5_undoCount at h
  refine lv_aload_n hx hb ddX5_undoCount_0 rfl (lv_at hl 0 rfl) ?_
  refine lv_iconst (v := (0 : Int32)) hx hb ddX5_undoCount_1 (by decide) ?_
  refine put_25_7 hx hb hown ht hK hS lk1131 ddX5_undoCount_2 (fun H locs hS => ?_)
  obtain ⟨σ1, eσ1⟩ : ∃ y : Mem, y = (st σ 25 7 (0 : Int32)) := ⟨_, rfl⟩
  rw [← eσ1] at hS
  replace h := h σ1 eσ1
  refine lv_aload_n hx hb ddX5_undoCount_5 rfl (lv_at hl 0 rfl) ?_
  refine get_25_5 hx hb hown ht hK hS lk1129 ddX5_undoCount_6 ?_
  exact k_iret hx hb hr hlocks hK hS h ddX5_undoCount_9

set_option maxHeartbeats 4000000 in
set_option maxRecDepth 100000 in
theorem c_X5_save (l : Launch) (X : GX) {σ : Mem} {K : Int32 → Mem → Prop} (h : wp_X5_save σ K) : MI l X yX5_save cX5_save 1 ((Option.some Jvm.ClassFile.FieldType.int)) ({ frames := 1, cells := 0, slots := 0, locals := 24 } : Room) [.ref (ga X 25)] σ K := by
  refine ent_met (QQ := fun A => va_Qi K (BW X A) A) (by decide) (Nat.le_of_ble_eq_true rfl) ?_
  intro p e s m args below meth c A ls hx hb hr hlocks hml hown ht hK hZ hA hS hl
  have hown : s.vm.findClass "GuardRosterModel" = some m.cls := hown
  have hl : lv_has ls 1 [(0, .ref (ga X 25))] := hl
  unfold wp_X5_save at h
  refine lv_aload_n hx hb ddX5_save_0 rfl (lv_at hl 0 rfl) ?_
  refine lv_iconst (v := (0 : Int32)) hx hb ddX5_save_1 (by decide) ?_
  refine put_25_7 hx hb hown ht hK hS lk1131 ddX5_save_2 (fun H locs hS => ?_)
  obtain ⟨σ1, eσ1⟩ : ∃ y : Mem, y = (st σ 25 7 (0 : Int32)) := ⟨_, rfl⟩
  rw [← eσ1] at hS
  replace h := h σ1 eσ1
  refine lv_aload_n hx hb ddX5_save_5 rfl (lv_at hl 0 rfl) ?_
  refine lv_iconst (v := (1 : Int32)) hx hb ddX5_save_6 (by decide) ?_
  refine put_25_4 hx hb hown ht hK hS rfl rfl lk1128 ddX5_save_7 (fun H locs hS => ?_)
  obtain ⟨σ2, eσ2⟩ : ∃ y : Mem, y = (st σ1 25 4 (1 : Int32)) := ⟨_, rfl⟩
  rw [← eσ2] at hS
  replace h := h σ2 eσ2
  refine lv_aload_n hx hb ddX5_save_10 rfl (lv_at hl 0 rfl) ?_
  refine get_25_0 hx hb hown ht hK hS lk1124 ddX5_save_11 ?_
  refine lv_iconst (v := (0 : Int32)) hx hb ddX5_save_14 (by decide) ?_
  refine lv_aload_n hx hb ddX5_save_15 rfl (lv_at hl 0 rfl) ?_
  refine get_25_2 hx hb hown ht hK hS lk1126 ddX5_save_16 ?_
  refine lv_iconst (v := (0 : Int32)) hx hb ddX5_save_19 (by decide) ?_
  refine k_SV (As := [.ref (ga X 26), .int (0 : Int32), .ref (ga X 28), .int (0 : Int32)]) (rest := []) (c_X5_copies_26_28 l X h) mf_X5_copies lk1207 hx hb hml hown ht hK hZ hS hA ⟨rfl, rfl⟩ ⟨Nat.le_of_ble_eq_true rfl, Nat.le_of_ble_eq_true rfl⟩ rfl hl.1 rfl (Nat.le_of_ble_eq_true rfl) ⟨Nat.le_of_ble_eq_true rfl, Nat.le_of_ble_eq_true rfl⟩ ddX5_save_20 (fun σ3 H locs hS h => ?_)
  refine lv_aload_n hx hb ddX5_save_23 rfl (lv_at hl 0 rfl) ?_
  refine get_25_0 hx hb hown ht hK hS lk1124 ddX5_save_24 ?_
  refine lv_iconst (v := (1 : Int32)) hx hb ddX5_save_27 (by decide) ?_
  refine aldk_26 hx hb hK hS 1 (by unfold vp_in; decide) rfl ddX5_save_28 ?_
  exact k_iret hx hb hr hlocks hK hS h ddX5_save_29

set_option maxHeartbeats 4000000 in
set_option maxRecDepth 100000 in
theorem c_X5_restore (l : Launch) (X : GX) {σ : Mem} {K : Int32 → Mem → Prop} (h : wp_X5_restore σ K) : MI l X yX5_restore cX5_restore 1 ((Option.some Jvm.ClassFile.FieldType.int)) ({ frames := 1, cells := 0, slots := 0, locals := 24 } : Room) [.ref (ga X 25)] σ K := by
  refine ent_met (QQ := fun A => va_Qi K (BW X A) A) (by decide) (Nat.le_of_ble_eq_true rfl) ?_
  intro p e s m args below meth c A ls hx hb hr hlocks hml hown ht hK hZ hA hS hl
  have hown : s.vm.findClass "GuardRosterModel" = some m.cls := hown
  have hl : lv_has ls 1 [(0, .ref (ga X 25))] := hl
  have hJ13 : ∀ (y1 : Int32) (σ : Mem) (H : Heap) (locs : List Loc) (ls : Array Slot), WS X A s.heap σ H locs → lv_has ls 1 [(0, .ref (ga X 25))] → wpJ_X5_restore_13 K y1 σ → WI X K p l e ({ frames := 1, cells := 0, slots := 0, locals := 24 } : Room) s m args below meth c A H locs (F0 m 13 ls [.int y1, .ref (ga X 25)]) := by
    intro y1 σ H locs ls hS hl h
    unfold wpJ_X5_restore_13 at h
    refine k_VI (As := [.int y1]) (rest := []) (c_X5_fails l X h) mf_X5_fails lk1199 hx hb hml hown ht hK hZ hS hA 25 5 rfl rfl rfl ⟨rfl, rfl⟩ ⟨Nat.le_of_ble_eq_true rfl, Nat.le_of_ble_eq_true rfl⟩ rfl hl.1 rfl (Nat.le_of_ble_eq_true rfl) ⟨Nat.le_of_ble_eq_true rfl, Nat.le_of_ble_eq_true rfl⟩ ddX5_restore_13 (fun r3 σ2 H locs hS h => ?_)
    refine lv_if_eq (tgt := 21) hx hb ddX5_restore_16 (by decide) (fun c4 => ?_) (fun c4 => ?_)
    · replace h := h.1 c4
      refine lv_aload_n hx hb ddX5_restore_21 rfl (lv_at hl 0 rfl) ?_
      refine get_25_2 hx hb hown ht hK hS lk1126 ddX5_restore_22 ?_
      refine lv_iconst (v := (0 : Int32)) hx hb ddX5_restore_25 (by decide) ?_
      refine lv_aload_n hx hb ddX5_restore_26 rfl (lv_at hl 0 rfl) ?_
      refine get_25_0 hx hb hown ht hK hS lk1124 ddX5_restore_27 ?_
      refine lv_iconst (v := (0 : Int32)) hx hb ddX5_restore_30 (by decide) ?_
      refine k_SV (As := [.ref (ga X 28), .int (0 : Int32), .ref (ga X 26), .int (0 : Int32)]) (rest := []) (c_X5_copies_28_26 l X h) mf_X5_copies lk1207 hx hb hml hown ht hK hZ hS hA ⟨rfl, rfl⟩ ⟨Nat.le_of_ble_eq_true rfl, Nat.le_of_ble_eq_true rfl⟩ rfl hl.1 rfl (Nat.le_of_ble_eq_true rfl) ⟨Nat.le_of_ble_eq_true rfl, Nat.le_of_ble_eq_true rfl⟩ ddX5_restore_31 (fun σ5 H locs hS h => ?_)
      refine lv_aload_n hx hb ddX5_restore_34 rfl (lv_at hl 0 rfl) ?_
      refine lv_iconst (v := (0 : Int32)) hx hb ddX5_restore_35 (by decide) ?_
      refine put_25_5 hx hb hown ht hK hS lk1129 ddX5_restore_36 (fun H locs hS => ?_)
      obtain ⟨σ6, eσ6⟩ : ∃ y : Mem, y = (st σ5 25 5 (0 : Int32)) := ⟨_, rfl⟩
      rw [← eσ6] at hS
      replace h := h σ6 eσ6
      refine lv_aload_n hx hb ddX5_restore_39 rfl (lv_at hl 0 rfl) ?_
      refine get_25_0 hx hb hown ht hK hS lk1124 ddX5_restore_40 ?_
      refine lv_iconst (v := (1 : Int32)) hx hb ddX5_restore_43 (by decide) ?_
      refine aldk_26 hx hb hK hS 1 (by unfold vp_in; decide) rfl ddX5_restore_44 ?_
      exact k_iret hx hb hr hlocks hK hS h ddX5_restore_45
    · replace h := h.2 c4
      refine lv_iconst (v := (0 : Int32)) hx hb ddX5_restore_19 (by decide) ?_
      exact k_iret hx hb hr hlocks hK hS h ddX5_restore_20
  unfold wp_X5_restore at h
  refine lv_aload_n hx hb ddX5_restore_0 rfl (lv_at hl 0 rfl) ?_
  refine lv_aload_n hx hb ddX5_restore_1 rfl (lv_at hl 0 rfl) ?_
  refine get_25_4 hx hb hown ht hK hS lk1128 ddX5_restore_2 ?_
  refine lv_if_eq (tgt := 12) hx hb ddX5_restore_5 (by decide) (fun c1 => ?_) (fun c1 => ?_)
  · replace h := h.1 c1
    refine lv_iconst (v := (1 : Int32)) hx hb ddX5_restore_12 (by decide) ?_
    exact hJ13 _ _ _ _ _ hS (lv_sub hl [0] rfl) h
  · replace h := h.2 c1
    refine lv_iconst (v := (0 : Int32)) hx hb ddX5_restore_8 (by decide) ?_
    refine lv_goto (tgt := 13) hx hb ddX5_restore_9 (by decide) ?_
    exact hJ13 _ _ _ _ _ hS (lv_sub hl [0] rfl) h
