set_option maxHeartbeats 4000000 in
set_option maxRecDepth 100000 in
theorem c_X3_countByPaths (l : Launch) (X : GX) {σ : Mem} {K : Int32 → Mem → Prop} (h : wp_X3_countByPaths σ K) : MI l X yX3_countByPaths cX3_countByPaths 3 ((Option.some Jvm.ClassFile.FieldType.int)) ({ frames := 7, cells := 0, slots := 0, locals := 175 } : Room) [.ref (ga X 15)] σ K := by
  refine ent_met (QQ := fun A => va_Qi K (BW X A) A) (by decide) (Nat.le_of_ble_eq_true rfl) ?_
  intro p e s m args below meth c A ls hx hb hr hlocks hml hown ht hK hZ hA hS hl
  have hown : s.vm.findClass "GuardRoster$SlotPlan" = some m.cls := hown
  have hl : lv_has ls 3 [(0, .ref (ga X 15))] := hl
  have hL25 : ∀ (n : Nat) (x1 x2 : Int32) (σ : Mem) (H : Heap) (locs : List Loc) (ls : Array Slot), WS X A s.heap σ H locs → lv_has ls 3 [(0, .ref (ga X 15)), (1, .int x1), (2, .int x2)] → wlp (wpF_X3_countByPaths_25 K) n (x1, x2, σ) → WI X K p l e ({ frames := 7, cells := 0, slots := 0, locals := 175 } : Room) s m args below meth c A H locs (F0 m 25 ls []) := by
    intro n25
    induction n25 with
    | zero => intro x1 x2 σ H locs ls hS hl h; exact h.elim
    | succ n25 ih25 =>
      have hJ47 : ∀ (x1 x2 : Int32) (σ : Mem) (H : Heap) (locs : List Loc) (ls : Array Slot), WS X A s.heap σ H locs → lv_has ls 3 [(0, .ref (ga X 15)), (1, .int x1), (2, .int x2)] → wpJ_X3_countByPaths_47 K (wlp (wpF_X3_countByPaths_25 K) n25) x1 x2 σ → WI X K p l e ({ frames := 7, cells := 0, slots := 0, locals := 175 } : Room) s m args below meth c A H locs (F0 m 47 ls []) := by
        intro x1 x2 σ H locs ls hS hl h
        unfold wpJ_X3_countByPaths_47 at h
        obtain ⟨v7, ev7⟩ : ∃ y : Int32, y = x2 + (1 : Int32) := ⟨_, rfl⟩
        replace h := h v7 ev7
        refine lv_iinc (v := v7) (lv' := [(2, .int v7), (0, .ref (ga X 15)), (1, .int x1)]) hx hb ddX3_countByPaths_47 hl (k := 2) rfl (by rw [ev7]; rfl) (by decide) rfl (fun ls hl => ?_)
        refine lv_goto (tgt := 25) hx hb ddX3_countByPaths_50 (by decide) ?_
        exact ih25 _ _ _ _ _ _ hS (lv_sub hl [1, 2, 0] rfl) h
      intro x1 x2 σ H locs ls hS hl h
      replace h : wpS_X3_countByPaths_25 K (wlp (wpF_X3_countByPaths_25 K) n25) x1 x2 σ := h
      unfold wpS_X3_countByPaths_25 at h
      refine lv_iload_n hx hb ddX3_countByPaths_25 rfl (lv_at hl 2 rfl) ?_
      refine lv_iconst (v := (5 : Int32)) hx hb ddX3_countByPaths_26 (by decide) ?_
      refine lv_icmp_ge (tgt := 53) hx hb ddX3_countByPaths_27 (by decide) (fun c2 => ?_) (fun c2 => ?_)
      · replace h := h.1 c2
        refine lv_iload_n hx hb ddX3_countByPaths_53 rfl (lv_at hl 1 rfl) ?_
        exact k_iret hx hb hr hlocks hK hS h ddX3_countByPaths_54
      · replace h := h.2 c2
        refine lv_aload_n hx hb ddX3_countByPaths_30 rfl (lv_at hl 0 rfl) ?_
        refine lv_iconst (v := (0 : Int32)) hx hb ddX3_countByPaths_31 (by decide) ?_
        refine put_15_2 hx hb hown ht hK hS lk72 ddX3_countByPaths_32 (fun H locs hS => ?_)
        obtain ⟨σ3, eσ3⟩ : ∃ y : Mem, y = (st σ 15 2 (0 : Int32)) := ⟨_, rfl⟩
        rw [← eσ3] at hS
        replace h := h σ3 eσ3
        refine lv_aload_n hx hb ddX3_countByPaths_35 rfl (lv_at hl 0 rfl) ?_
        refine lv_iload_n hx hb ddX3_countByPaths_36 rfl (lv_at hl 2 rfl) ?_
        refine lv_iconst (v := (0 : Int32)) hx hb ddX3_countByPaths_37 (by decide) ?_
        refine k_SI (As := [.ref (ga X 15), .int x2, .int (0 : Int32)]) (rest := []) (c_X3_finds6 l X h) mf_X3_finds lk349 hx hb hml hown ht hK hZ hS hA ⟨rfl, rfl⟩ ⟨Nat.le_of_ble_eq_true rfl, Nat.le_of_ble_eq_true rfl⟩ rfl hl.1 rfl (Nat.le_of_ble_eq_true rfl) ⟨Nat.le_of_ble_eq_true rfl, Nat.le_of_ble_eq_true rfl⟩ ddX3_countByPaths_38 (fun r5 σ4 H locs hS h => ?_)
        refine lv_if_eq (tgt := 47) hx hb ddX3_countByPaths_41 (by decide) (fun c6 => ?_) (fun c6 => ?_)
        · replace h := h.1 c6
          exact hJ47 _ _ _ _ _ _ hS (lv_sub hl [0, 1, 2] rfl) h
        · replace h := h.2 c6
          obtain ⟨v8, ev8⟩ : ∃ y : Int32, y = x1 + (1 : Int32) := ⟨_, rfl⟩
          replace h := h v8 ev8
          refine lv_iinc (v := v8) (lv' := [(1, .int v8), (0, .ref (ga X 15)), (2, .int x2)]) hx hb ddX3_countByPaths_44 hl (k := 1) rfl (by rw [ev8]; rfl) (by decide) rfl (fun ls hl => ?_)
          exact hJ47 _ _ _ _ _ _ hS (lv_sub hl [1, 0, 2] rfl) h
  have hJ21 : ∀ (σ : Mem) (H : Heap) (locs : List Loc) (ls : Array Slot), WS X A s.heap σ H locs → lv_has ls 3 [(0, .ref (ga X 15))] → wpJ_X3_countByPaths_21 K σ → WI X K p l e ({ frames := 7, cells := 0, slots := 0, locals := 175 } : Room) s m args below meth c A H locs (F0 m 21 ls []) := by
    intro  σ H locs ls hS hl h
    unfold wpJ_X3_countByPaths_21 at h
    refine lv_iconst (v := (0 : Int32)) hx hb ddX3_countByPaths_21 (by decide) ?_
    refine lv_istore_n (lv' := [(1, .int (0 : Int32)), (0, .ref (ga X 15))]) hx hb ddX3_countByPaths_22 rfl hl (by decide) rfl (fun ls hl => ?_)
    refine lv_iconst (v := (0 : Int32)) hx hb ddX3_countByPaths_23 (by decide) ?_
    refine lv_istore_n (lv' := [(2, .int (0 : Int32)), (1, .int (0 : Int32)), (0, .ref (ga X 15))]) hx hb ddX3_countByPaths_24 rfl hl (by decide) rfl (fun ls hl => ?_)
    obtain ⟨n, h⟩ := h
    exact hL25 n _ _ _ _ _ _ hS (lv_sub hl [2, 1, 0] rfl) h
  have hL2 : ∀ (n : Nat) (x1 : Int32) (σ : Mem) (H : Heap) (locs : List Loc) (ls : Array Slot), WS X A s.heap σ H locs → lv_has ls 3 [(0, .ref (ga X 15)), (1, .int x1)] → wlp (wpF_X3_countByPaths_2 K) n (x1, σ) → WI X K p l e ({ frames := 7, cells := 0, slots := 0, locals := 175 } : Room) s m args below meth c A H locs (F0 m 2 ls []) := by
    intro n2
    induction n2 with
    | zero => intro x1 σ H locs ls hS hl h; exact h.elim
    | succ n2 ih2 =>
      intro x1 σ H locs ls hS hl h
      replace h : wpS_X3_countByPaths_2 K (wlp (wpF_X3_countByPaths_2 K) n2) x1 σ := h
      unfold wpS_X3_countByPaths_2 at h
      refine lv_iload_n hx hb ddX3_countByPaths_2 rfl (lv_at hl 1 rfl) ?_
      refine lv_bipush (v := (10 : Int32)) hx hb ddX3_countByPaths_3 (by decide) ?_
      refine lv_icmp_ge (tgt := 21) hx hb ddX3_countByPaths_5 (by decide) (fun c1 => ?_) (fun c1 => ?_)
      · replace h := h.1 c1
        exact hJ21  _ _ _ _ hS (lv_sub hl [0] rfl) h
      · replace h := h.2 c1
        refine lv_aload_n hx hb ddX3_countByPaths_8 rfl (lv_at hl 0 rfl) ?_
        refine get_15_1 hx hb hown ht hK hS lk71 ddX3_countByPaths_9 ?_
        refine lv_iload_n hx hb ddX3_countByPaths_12 rfl (lv_at hl 1 rfl) ?_
        refine lv_iconst (v := (0 : Int32)) hx hb ddX3_countByPaths_13 (by decide) ?_
        refine ast_17 hx hb hK hS h.1 ddX3_countByPaths_14 (fun H locs hS => ?_)
        replace h := h.2
        obtain ⟨σ9, eσ9⟩ : ∃ y : Mem, y = (st σ 17 x1.toNatClampNeg (0 : Int32)) := ⟨_, rfl⟩
        rw [← eσ9] at hS
        replace h := h σ9 eσ9
        obtain ⟨v10, ev10⟩ : ∃ y : Int32, y = x1 + (1 : Int32) := ⟨_, rfl⟩
        replace h := h v10 ev10
        refine lv_iinc (v := v10) (lv' := [(1, .int v10), (0, .ref (ga X 15))]) hx hb ddX3_countByPaths_15 hl (k := 1) rfl (by rw [ev10]; rfl) (by decide) rfl (fun ls hl => ?_)
        refine lv_goto (tgt := 2) hx hb ddX3_countByPaths_18 (by decide) ?_
        exact ih2 _ _ _ _ _ hS (lv_sub hl [1, 0] rfl) h
  unfold wp_X3_countByPaths at h
  refine lv_iconst (v := (0 : Int32)) hx hb ddX3_countByPaths_0 (by decide) ?_
  refine lv_istore_n (lv' := [(1, .int (0 : Int32)), (0, .ref (ga X 15))]) hx hb ddX3_countByPaths_1 rfl hl (by decide) rfl (fun ls hl => ?_)
  obtain ⟨n, h⟩ := h
  exact hL2 n _ _ _ _ _ hS (lv_sub hl [1, 0] rfl) h

set_option maxHeartbeats 4000000 in
set_option maxRecDepth 100000 in
theorem c_X3_countBySets (l : Launch) (X : GX) {σ : Mem} {K : Int32 → Mem → Prop} (h : wp_X3_countBySets σ K) : MI l X yX3_countBySets cX3_countBySets 5 ((Option.some Jvm.ClassFile.FieldType.int)) ({ frames := 1, cells := 0, slots := 0, locals := 21 } : Room) [.ref (ga X 15)] σ K := by
  refine ent_met (QQ := fun A => va_Qi K (BW X A) A) (by decide) (Nat.le_of_ble_eq_true rfl) ?_
  intro p e s m args below meth c A ls hx hb hr hlocks hml hown ht hK hZ hA hS hl
  have hown : s.vm.findClass "GuardRoster$SlotPlan" = some m.cls := hown
  have hl : lv_has ls 5 [(0, .ref (ga X 15))] := hl
  have hL4 : ∀ (n : Nat) (x1 x2 : Int32) (σ : Mem) (H : Heap) (locs : List Loc) (ls : Array Slot), WS X A s.heap σ H locs → lv_has ls 5 [(0, .ref (ga X 15)), (1, .int x1), (2, .int x2)] → wlp (wpF_X3_countBySets_4 K) n (x1, x2, σ) → WI X K p l e ({ frames := 1, cells := 0, slots := 0, locals := 21 } : Room) s m args below meth c A H locs (F0 m 4 ls []) := by
    intro n4
    induction n4 with
    | zero => intro x1 x2 σ H locs ls hS hl h; exact h.elim
    | succ n4 ih4 =>
      have hJ43 : ∀ (x1 x2 : Int32) (σ : Mem) (H : Heap) (locs : List Loc) (ls : Array Slot), WS X A s.heap σ H locs → lv_has ls 5 [(0, .ref (ga X 15)), (1, .int x1), (2, .int x2)] → wpJ_X3_countBySets_43 K (wlp (wpF_X3_countBySets_4 K) n4) x1 x2 σ → WI X K p l e ({ frames := 1, cells := 0, slots := 0, locals := 21 } : Room) s m args below meth c A H locs (F0 m 43 ls []) := by
        intro x1 x2 σ H locs ls hS hl h
        unfold wpJ_X3_countBySets_43 at h
        refine lv_iload_n hx hb ddX3_countBySets_43 rfl (lv_at hl 2 rfl) ?_
        refine k_SI (As := [.int x2]) (rest := []) (c_J6_bitCount_0f7a4 l X h) mf_J6_bitCount_0f7a4 lk364 hx hb hml hown ht hK hZ hS hA ⟨rfl, rfl⟩ ⟨Nat.le_of_ble_eq_true rfl, Nat.le_of_ble_eq_true rfl⟩ rfl hl.1 rfl (Nat.le_of_ble_eq_true rfl) ⟨Nat.le_of_ble_eq_true rfl, Nat.le_of_ble_eq_true rfl⟩ ddX3_countBySets_44 (fun r6 σ5 H locs hS h => ?_)
        refine lv_aload_n hx hb ddX3_countBySets_47 rfl (lv_at hl 0 rfl) ?_
        refine get_15_3 hx hb hown ht hK hS lk73 ddX3_countBySets_48 ?_
        refine lv_iload_n hx hb ddX3_countBySets_51 rfl (lv_at hl 2 rfl) ?_
        refine ald_18 hx hb hK hS h.1 ddX3_countBySets_52 ?_
        replace h := h.2
        refine k_SI (As := [.int (σ5 18 x2.toNatClampNeg)]) (rest := [.int r6]) (c_J6_bitCount_0f7a4 l X h) mf_J6_bitCount_0f7a4 lk364 hx hb hml hown ht hK hZ hS hA ⟨rfl, rfl⟩ ⟨Nat.le_of_ble_eq_true rfl, Nat.le_of_ble_eq_true rfl⟩ rfl hl.1 rfl (Nat.le_of_ble_eq_true rfl) ⟨Nat.le_of_ble_eq_true rfl, Nat.le_of_ble_eq_true rfl⟩ ddX3_countBySets_53 (fun r8 σ7 H locs hS h => ?_)
        refine lv_isub hx hb ddX3_countBySets_56 ?_
        refine lv_topi (fun v9 ev9 => ?_)
        replace h := h v9 ev9
        refine lv_istore (lv' := [(4, .int v9), (0, .ref (ga X 15)), (1, .int x1), (2, .int x2)]) hx hb ddX3_countBySets_57 hl (by decide) rfl (fun ls hl => ?_)
        refine lv_iload_n hx hb ddX3_countBySets_59 rfl (lv_at hl 2 rfl) ?_
        refine lv_iload hx hb ddX3_countBySets_60 (lv_at hl 0 rfl) ?_
        refine k_max hx hb (hml.trans hl.1.symm) hown ht lk370 (Nat.le_of_ble_eq_true rfl) (Nat.le_of_ble_eq_true rfl) ddX3_countBySets_62 ?_
        refine lv_topi (fun v10 ev10 => ?_)
        replace h := h v10 ev10
        refine lv_istore_n (lv' := [(1, .int v10), (4, .int v9), (0, .ref (ga X 15)), (2, .int x2)]) hx hb ddX3_countBySets_65 rfl hl (by decide) rfl (fun ls hl => ?_)
        obtain ⟨v11, ev11⟩ : ∃ y : Int32, y = x2 + (1 : Int32) := ⟨_, rfl⟩
        replace h := h v11 ev11
        refine lv_iinc (v := v11) (lv' := [(2, .int v11), (1, .int v10), (4, .int v9), (0, .ref (ga X 15))]) hx hb ddX3_countBySets_66 hl (k := 3) rfl (by rw [ev11]; rfl) (by decide) rfl (fun ls hl => ?_)
        refine lv_goto (tgt := 4) hx hb ddX3_countBySets_69 (by decide) ?_
        exact ih4 _ _ _ _ _ _ hS (lv_sub hl [3, 1, 0] rfl) h
      intro x1 x2 σ H locs ls hS hl h
      replace h : wpS_X3_countBySets_4 K (wlp (wpF_X3_countBySets_4 K) n4) x1 x2 σ := h
      unfold wpS_X3_countBySets_4 at h
      refine lv_iload_n hx hb ddX3_countBySets_4 rfl (lv_at hl 2 rfl) ?_
      refine lv_bipush (v := (32 : Int32)) hx hb ddX3_countBySets_5 (by decide) ?_
      refine lv_icmp_ge (tgt := 72) hx hb ddX3_countBySets_7 (by decide) (fun c1 => ?_) (fun c1 => ?_)
      · replace h := h.1 c1
        refine lv_iconst (v := (5 : Int32)) hx hb ddX3_countBySets_72 (by decide) ?_
        refine lv_iload_n hx hb ddX3_countBySets_73 rfl (lv_at hl 1 rfl) ?_
        refine lv_isub hx hb ddX3_countBySets_74 ?_
        exact k_iret hx hb hr hlocks hK hS h ddX3_countBySets_75
      · replace h := h.2 c1
        refine lv_iload_n hx hb ddX3_countBySets_10 rfl (lv_at hl 2 rfl) ?_
        refine k_SI (As := [.int x2]) (rest := []) (c_J6_numberOfTrailingZeros_0f7a4 l X h) mf_J6_numberOfTrailingZeros_0f7a4 lk360 hx hb hml hown ht hK hZ hS hA ⟨rfl, rfl⟩ ⟨Nat.le_of_ble_eq_true rfl, Nat.le_of_ble_eq_true rfl⟩ rfl hl.1 rfl (Nat.le_of_ble_eq_true rfl) ⟨Nat.le_of_ble_eq_true rfl, Nat.le_of_ble_eq_true rfl⟩ ddX3_countBySets_11 (fun r3 σ2 H locs hS h => ?_)
        refine lv_istore_n (lv' := [(3, .int r3), (0, .ref (ga X 15)), (1, .int x1), (2, .int x2)]) hx hb ddX3_countBySets_14 rfl hl (by decide) rfl (fun ls hl => ?_)
        refine lv_iload_n hx hb ddX3_countBySets_15 rfl (lv_at hl 0 rfl) ?_
        refine lv_iconst (v := (5 : Int32)) hx hb ddX3_countBySets_16 (by decide) ?_
        refine lv_icmp_ge (tgt := 43) hx hb ddX3_countBySets_17 (by decide) (fun c4 => ?_) (fun c4 => ?_)
        · replace h := h.1 c4
          exact hJ43 _ _ _ _ _ _ hS (lv_sub hl [1, 2, 3] rfl) h
        · replace h := h.2 c4
          refine lv_aload_n hx hb ddX3_countBySets_20 rfl (lv_at hl 1 rfl) ?_
          refine get_15_3 hx hb hown ht hK hS lk73 ddX3_countBySets_21 ?_
          refine lv_iload_n hx hb ddX3_countBySets_24 rfl (lv_at hl 3 rfl) ?_
          refine lv_aload_n hx hb ddX3_countBySets_25 rfl (lv_at hl 1 rfl) ?_
          refine get_15_3 hx hb hown ht hK hS lk73 ddX3_countBySets_26 ?_
          refine lv_iload_n hx hb ddX3_countBySets_29 rfl (lv_at hl 3 rfl) ?_
          refine lv_iload_n hx hb ddX3_countBySets_30 rfl (lv_at hl 3 rfl) ?_
          refine lv_iconst (v := (1 : Int32)) hx hb ddX3_countBySets_31 (by decide) ?_
          refine lv_isub hx hb ddX3_countBySets_32 ?_
          refine lv_iand hx hb ddX3_countBySets_33 ?_
          refine ald_18 hx hb hK hS h.1 ddX3_countBySets_34 ?_
          replace h := h.2
          refine lv_aload_n hx hb ddX3_countBySets_35 rfl (lv_at hl 1 rfl) ?_
          refine get_15_0 hx hb hown ht hK hS lk70 ddX3_countBySets_36 ?_
          refine lv_iload_n hx hb ddX3_countBySets_39 rfl (lv_at hl 0 rfl) ?_
          refine ald_16 hx hb hK hS h.1 ddX3_countBySets_40 ?_
          replace h := h.2
          refine lv_ior hx hb ddX3_countBySets_41 ?_
          refine ast_18 hx hb hK hS h.1 ddX3_countBySets_42 (fun H locs hS => ?_)
          replace h := h.2
          obtain ⟨σ12, eσ12⟩ : ∃ y : Mem, y = (st σ2 18 x2.toNatClampNeg ((σ2 18 (x2 &&& (x2 - (1 : Int32))).toNatClampNeg) ||| (σ2 16 r3.toNatClampNeg))) := ⟨_, rfl⟩
          rw [← eσ12] at hS
          replace h := h σ12 eσ12
          exact hJ43 _ _ _ _ _ _ hS (lv_sub hl [1, 2, 3] rfl) h
  unfold wp_X3_countBySets at h
  refine lv_iconst (v := (0 : Int32)) hx hb ddX3_countBySets_0 (by decide) ?_
  refine lv_istore_n (lv' := [(1, .int (0 : Int32)), (0, .ref (ga X 15))]) hx hb ddX3_countBySets_1 rfl hl (by decide) rfl (fun ls hl => ?_)
  refine lv_iconst (v := (1 : Int32)) hx hb ddX3_countBySets_2 (by decide) ?_
  refine lv_istore_n (lv' := [(2, .int (1 : Int32)), (1, .int (0 : Int32)), (0, .ref (ga X 15))]) hx hb ddX3_countBySets_3 rfl hl (by decide) rfl (fun ls hl => ?_)
  obtain ⟨n, h⟩ := h
  exact hL4 n _ _ _ _ _ _ hS (lv_sub hl [2, 1, 0] rfl) h
