set_option maxHeartbeats 4000000 in
set_option maxRecDepth 100000 in
theorem c_X3_guardsThatFit (l : Launch) (X : GX) {x1 x2 : Int32} {σ : Mem} {K : Int32 → Mem → Prop} (h : wp_X3_guardsThatFit x1 x2 σ K) : MI l X yX3_guardsThatFit cX3_guardsThatFit 5 ((Option.some Jvm.ClassFile.FieldType.int)) ({ frames := 3, cells := 0, slots := 0, locals := 66 } : Room) [.ref (ga X 1), .int x1, .int x2] σ K := by
  refine ent_met (QQ := fun A => va_Qi K (BW X A) A) (by decide) (Nat.le_of_ble_eq_true rfl) ?_
  intro p e s m args below meth c A ls hx hb hr hlocks hml hown ht hK hZ hA hS hl
  have hown : s.vm.findClass "GuardRoster$SlotPlan" = some m.cls := hown
  have hl : lv_has ls 5 [(0, .ref (ga X 1)), (1, .int x1), (2, .int x2)] := hl
  have hL5 : ∀ (n : Nat) (x1 x2 x3 x4 : Int32) (σ : Mem) (H : Heap) (locs : List Loc) (ls : Array Slot), WS X A s.heap σ H locs → lv_has ls 5 [(0, .ref (ga X 1)), (1, .int x1), (2, .int x2), (3, .int x3), (4, .int x4)] → wlp (wpF_X3_guardsThatFit_5 K) n (x1, x2, x3, x4, σ) → WI X K p l e ({ frames := 3, cells := 0, slots := 0, locals := 66 } : Room) s m args below meth c A H locs (F0 m 5 ls []) := by
    intro n5
    induction n5 with
    | zero => intro x1 x2 x3 x4 σ H locs ls hS hl h; exact h.elim
    | succ n5 ih5 =>
      have hJ32 : ∀ (x1 x2 x3 x4 : Int32) (σ : Mem) (H : Heap) (locs : List Loc) (ls : Array Slot), WS X A s.heap σ H locs → lv_has ls 5 [(0, .ref (ga X 1)), (1, .int x1), (2, .int x2), (3, .int x3), (4, .int x4)] → wpJ_X3_guardsThatFit_32 K (wlp (wpF_X3_guardsThatFit_5 K) n5) x1 x2 x3 x4 σ → WI X K p l e ({ frames := 3, cells := 0, slots := 0, locals := 66 } : Room) s m args below meth c A H locs (F0 m 32 ls []) := by
        intro x1 x2 x3 x4 σ H locs ls hS hl h
        unfold wpJ_X3_guardsThatFit_32 at h
        obtain ⟨v7, ev7⟩ : ∃ y : Int32, y = x4 + (1 : Int32) := ⟨_, rfl⟩
        replace h := h v7 ev7
        refine lv_iinc (v := v7) (lv' := [(4, .int v7), (0, .ref (ga X 1)), (1, .int x1), (2, .int x2), (3, .int x3)]) hx hb ddX3_guardsThatFit_32 hl (k := 4) rfl (by rw [ev7]; rfl) (by decide) rfl (fun ls hl => ?_)
        refine lv_goto (tgt := 5) hx hb ddX3_guardsThatFit_35 (by decide) ?_
        exact ih5 _ _ _ _ _ _ _ _ hS (lv_sub hl [1, 2, 3, 4, 0] rfl) h
      intro x1 x2 x3 x4 σ H locs ls hS hl h
      replace h : wpS_X3_guardsThatFit_5 K (wlp (wpF_X3_guardsThatFit_5 K) n5) x1 x2 x3 x4 σ := h
      unfold wpS_X3_guardsThatFit_5 at h
      refine lv_iload hx hb ddX3_guardsThatFit_5 (lv_at hl 4 rfl) ?_
      refine lv_aload_n hx hb ddX3_guardsThatFit_7 rfl (lv_at hl 0 rfl) ?_
      refine k_VI (As := []) (rest := [.int x4]) (c_X2_guards l X h) mf_X2_guards lk320 hx hb hml hown ht hK hZ hS hA 1 1 rfl rfl rfl ⟨rfl, rfl⟩ ⟨Nat.le_of_ble_eq_true rfl, Nat.le_of_ble_eq_true rfl⟩ rfl hl.1 rfl (Nat.le_of_ble_eq_true rfl) ⟨Nat.le_of_ble_eq_true rfl, Nat.le_of_ble_eq_true rfl⟩ ddX3_guardsThatFit_8 (fun r2 σ1 H locs hS h => ?_)
      refine lv_icmp_ge (tgt := 38) hx hb ddX3_guardsThatFit_11 (by decide) (fun c3 => ?_) (fun c3 => ?_)
      · replace h := h.1 c3
        refine lv_iload_n hx hb ddX3_guardsThatFit_38 rfl (lv_at hl 3 rfl) ?_
        exact k_iret hx hb hr hlocks hK hS h ddX3_guardsThatFit_39
      · replace h := h.2 c3
        refine lv_aload_n hx hb ddX3_guardsThatFit_14 rfl (lv_at hl 0 rfl) ?_
        refine lv_iload_n hx hb ddX3_guardsThatFit_15 rfl (lv_at hl 1 rfl) ?_
        refine lv_iload_n hx hb ddX3_guardsThatFit_16 rfl (lv_at hl 2 rfl) ?_
        refine lv_iload hx hb ddX3_guardsThatFit_17 (lv_at hl 4 rfl) ?_
        refine k_VI (As := [.int x1, .int x2, .int x4]) (rest := []) (c_X2_reasonAgainst l X h) mf_X2_reasonAgainst lk321 hx hb hml hown ht hK hZ hS hA 1 1 rfl rfl rfl ⟨rfl, rfl⟩ ⟨Nat.le_of_ble_eq_true rfl, Nat.le_of_ble_eq_true rfl⟩ rfl hl.1 rfl (Nat.le_of_ble_eq_true rfl) ⟨Nat.le_of_ble_eq_true rfl, Nat.le_of_ble_eq_true rfl⟩ ddX3_guardsThatFit_19 (fun r5 σ4 H locs hS h => ?_)
        refine lv_if_ne (tgt := 32) hx hb ddX3_guardsThatFit_22 (by decide) (fun c6 => ?_) (fun c6 => ?_)
        · replace h := h.1 c6
          exact hJ32 _ _ _ _ _ _ _ _ hS (lv_sub hl [0, 1, 2, 3, 4] rfl) h
        · replace h := h.2 c6
          refine lv_iload_n hx hb ddX3_guardsThatFit_25 rfl (lv_at hl 3 rfl) ?_
          refine lv_iconst (v := (1 : Int32)) hx hb ddX3_guardsThatFit_26 (by decide) ?_
          refine lv_iload hx hb ddX3_guardsThatFit_27 (lv_at hl 4 rfl) ?_
          refine lv_ishl hx hb ddX3_guardsThatFit_29 ?_
          refine lv_ior hx hb ddX3_guardsThatFit_30 ?_
          refine lv_topi (fun v8 ev8 => ?_)
          replace h := h v8 ev8
          refine lv_istore_n (lv' := [(3, .int v8), (0, .ref (ga X 1)), (1, .int x1), (2, .int x2), (4, .int x4)]) hx hb ddX3_guardsThatFit_31 rfl hl (by decide) rfl (fun ls hl => ?_)
          exact hJ32 _ _ _ _ _ _ _ _ hS (lv_sub hl [1, 2, 3, 0, 4] rfl) h
  unfold wp_X3_guardsThatFit at h
  refine lv_iconst (v := (0 : Int32)) hx hb ddX3_guardsThatFit_0 (by decide) ?_
  refine lv_istore_n (lv' := [(3, .int (0 : Int32)), (0, .ref (ga X 1)), (1, .int x1), (2, .int x2)]) hx hb ddX3_guardsThatFit_1 rfl hl (by decide) rfl (fun ls hl => ?_)
  refine lv_iconst (v := (0 : Int32)) hx hb ddX3_guardsThatFit_2 (by decide) ?_
  refine lv_istore (lv' := [(4, .int (0 : Int32)), (3, .int (0 : Int32)), (0, .ref (ga X 1)), (1, .int x1), (2, .int x2)]) hx hb ddX3_guardsThatFit_3 hl (by decide) rfl (fun ls hl => ?_)
  obtain ⟨n, h⟩ := h
  exact hL5 n _ _ _ _ _ _ _ _ hS (lv_sub hl [2, 3, 4, 1, 0] rfl) h

set_option maxHeartbeats 4000000 in
set_option maxRecDepth 100000 in
theorem c_X3_prepare (l : Launch) (X : GX) {x2 : Int32} {σ : Mem} {K : Mem → Prop} (h : wp_X3_prepare x2 σ K) : MV l X yX3_prepare cX3_prepare 4 ((Option.none : Option Jvm.ClassFile.FieldType)) ({ frames := 4, cells := 0, slots := 0, locals := 90 } : Room) [.ref (ga X 15), .ref (ga X 1), .int x2] σ K := by
  refine ent_met (QQ := fun A => va_Qv K (BW X A) A) (by decide) (Nat.le_of_ble_eq_true rfl) ?_
  intro p e s m args below meth c A ls hx hb hr hlocks hml hown ht hK hZ hA hS hl
  have hown : s.vm.findClass "GuardRoster$SlotPlan" = some m.cls := hown
  have hl : lv_has ls 4 [(0, .ref (ga X 15)), (1, .ref (ga X 1)), (2, .int x2)] := hl
  have hL2 : ∀ (n : Nat) (x2 x3 : Int32) (σ : Mem) (H : Heap) (locs : List Loc) (ls : Array Slot), WS X A s.heap σ H locs → lv_has ls 4 [(0, .ref (ga X 15)), (1, .ref (ga X 1)), (2, .int x2), (3, .int x3)] → wlp (wpF_X3_prepare_2 K) n (x2, x3, σ) → WV X K p l e ({ frames := 4, cells := 0, slots := 0, locals := 90 } : Room) s m args below meth c A H locs (F0 m 2 ls []) := by
    intro n2
    induction n2 with
    | zero => intro x2 x3 σ H locs ls hS hl h; exact h.elim
    | succ n2 ih2 =>
      have hJ30 : ∀ (x2 x3 y1 y2 : Int32) (σ : Mem) (H : Heap) (locs : List Loc) (ls : Array Slot), WS X A s.heap σ H locs → lv_has ls 4 [(0, .ref (ga X 15)), (1, .ref (ga X 1)), (2, .int x2), (3, .int x3)] → wpJ_X3_prepare_30 K (wlp (wpF_X3_prepare_2 K) n2) x2 x3 y1 y2 σ → WV X K p l e ({ frames := 4, cells := 0, slots := 0, locals := 90 } : Room) s m args below meth c A H locs (F0 m 30 ls [.int y2, .int y1, .ref (ga X 16)]) := by
        intro x2 x3 y1 y2 σ H locs ls hS hl h
        unfold wpJ_X3_prepare_30 at h
        refine ast_16 hx hb hK hS h.1 ddX3_prepare_30 (fun H locs hS => ?_)
        replace h := h.2
        obtain ⟨σ5, eσ5⟩ : ∃ y : Mem, y = (st σ 16 y1.toNatClampNeg y2) := ⟨_, rfl⟩
        rw [← eσ5] at hS
        replace h := h σ5 eσ5
        obtain ⟨v6, ev6⟩ : ∃ y : Int32, y = x3 + (1 : Int32) := ⟨_, rfl⟩
        replace h := h v6 ev6
        refine lv_iinc (v := v6) (lv' := [(3, .int v6), (0, .ref (ga X 15)), (1, .ref (ga X 1)), (2, .int x2)]) hx hb ddX3_prepare_31 hl (k := 3) rfl (by rw [ev6]; rfl) (by decide) rfl (fun ls hl => ?_)
        refine lv_goto (tgt := 2) hx hb ddX3_prepare_34 (by decide) ?_
        exact ih2 _ _ _ _ _ _ hS (lv_sub hl [1, 2, 3, 0] rfl) h
      intro x2 x3 σ H locs ls hS hl h
      replace h : wpS_X3_prepare_2 K (wlp (wpF_X3_prepare_2 K) n2) x2 x3 σ := h
      unfold wpS_X3_prepare_2 at h
      refine lv_iload_n hx hb ddX3_prepare_2 rfl (lv_at hl 3 rfl) ?_
      refine lv_iconst (v := (5 : Int32)) hx hb ddX3_prepare_3 (by decide) ?_
      refine lv_icmp_ge (tgt := 37) hx hb ddX3_prepare_4 (by decide) (fun c1 => ?_) (fun c1 => ?_)
      · replace h := h.1 c1
        exact k_vret hx hb hr hlocks hK hS h ddX3_prepare_37
      · replace h := h.2 c1
        refine lv_aload_n hx hb ddX3_prepare_7 rfl (lv_at hl 0 rfl) ?_
        refine get_15_0 hx hb hown ht hK hS lk70 ddX3_prepare_8 ?_
        refine lv_iload_n hx hb ddX3_prepare_11 rfl (lv_at hl 3 rfl) ?_
        refine lv_aload_n hx hb ddX3_prepare_12 rfl (lv_at hl 1 rfl) ?_
        refine lv_iload_n hx hb ddX3_prepare_13 rfl (lv_at hl 3 rfl) ?_
        refine k_VI (As := [.int x3]) (rest := [.int x3, .ref (ga X 16)]) (c_X2_isGate l X h) mf_X2_isGate lk316 hx hb hml hown ht hK hZ hS hA 1 1 rfl rfl rfl ⟨rfl, rfl⟩ ⟨Nat.le_of_ble_eq_true rfl, Nat.le_of_ble_eq_true rfl⟩ rfl hl.1 rfl (Nat.le_of_ble_eq_true rfl) ⟨Nat.le_of_ble_eq_true rfl, Nat.le_of_ble_eq_true rfl⟩ ddX3_prepare_14 (fun r3 σ2 H locs hS h => ?_)
        refine lv_if_eq (tgt := 29) hx hb ddX3_prepare_17 (by decide) (fun c4 => ?_) (fun c4 => ?_)
        · replace h := h.1 c4
          refine lv_iconst (v := (0 : Int32)) hx hb ddX3_prepare_29 (by decide) ?_
          exact hJ30 _ _ _ _ _ _ _ _ hS (lv_sub hl [0, 1, 2, 3] rfl) h
        · replace h := h.2 c4
          refine lv_aload_n hx hb ddX3_prepare_20 rfl (lv_at hl 1 rfl) ?_
          refine lv_iload_n hx hb ddX3_prepare_21 rfl (lv_at hl 3 rfl) ?_
          refine lv_iload_n hx hb ddX3_prepare_22 rfl (lv_at hl 2 rfl) ?_
          refine k_SI (As := [.ref (ga X 1), .int x3, .int x2]) (rest := [.int x3, .ref (ga X 16)]) (c_X3_guardsThatFit l X h) mf_X3_guardsThatFit lk317 hx hb hml hown ht hK hZ hS hA ⟨rfl, rfl⟩ ⟨Nat.le_of_ble_eq_true rfl, Nat.le_of_ble_eq_true rfl⟩ rfl hl.1 rfl (Nat.le_of_ble_eq_true rfl) ⟨Nat.le_of_ble_eq_true rfl, Nat.le_of_ble_eq_true rfl⟩ ddX3_prepare_23 (fun r8 σ7 H locs hS h => ?_)
          refine lv_goto (tgt := 30) hx hb ddX3_prepare_26 (by decide) ?_
          exact hJ30 _ _ _ _ _ _ _ _ hS (lv_sub hl [0, 1, 2, 3] rfl) h
  unfold wp_X3_prepare at h
  refine lv_iconst (v := (0 : Int32)) hx hb ddX3_prepare_0 (by decide) ?_
  refine lv_istore_n (lv' := [(3, .int (0 : Int32)), (0, .ref (ga X 15)), (1, .ref (ga X 1)), (2, .int x2)]) hx hb ddX3_prepare_1 rfl hl (by decide) rfl (fun ls hl => ?_)
  obtain ⟨n, h⟩ := h
  exact hL2 n _ _ _ _ _ _ hS (lv_sub hl [1, 2, 3, 0] rfl) h
