set_option maxHeartbeats 4000000 in
set_option maxRecDepth 100000 in
theorem c_X5_isWord_8 (l : Launch) (X : GX) {x1 : Int32} {σ : Mem} {K : Int32 → Mem → Prop} (h : wp_X5_isWord_8 x1 σ K) : MI l X yX5_isWord cX5_isWord 4 ((Option.some Jvm.ClassFile.FieldType.boolean)) ({ frames := 4, cells := 0, slots := 0, locals := 85 } : Room) [.ref (ga X 25), .int x1, .ref (gK X 8)] σ K := by
  refine ent_met (QQ := fun A => va_Qi K (BW X A) A) (by decide) (Nat.le_of_ble_eq_true rfl) ?_
  intro p e s m args below meth c A ls hx hb hr hlocks hml hown ht hK hZ hA hS hl
  have hown : s.vm.findClass "GuardRosterModel" = some m.cls := hown
  have hl : lv_has ls 4 [(0, .ref (ga X 25)), (1, .int x1), (2, .ref (gK X 8))] := hl
  have hL14 : ∀ (n : Nat) (x3 : Int32) (σ : Mem) (H : Heap) (locs : List Loc) (ls : Array Slot), WS X A s.heap σ H locs → lv_has ls 4 [(0, .ref (ga X 25)), (2, .ref (gK X 8)), (3, .int x3)] → wlp (wpF_X5_isWord_8_14 K) n (x3, σ) → WI X K p l e ({ frames := 4, cells := 0, slots := 0, locals := 85 } : Room) s m args below meth c A H locs (F0 m 14 ls []) := by
    intro n14
    induction n14 with
    | zero => intro x3 σ H locs ls hS hl h; exact h.elim
    | succ n14 ih14 =>
      intro x3 σ H locs ls hS hl h
      replace h : wpS_X5_isWord_8_14 K (wlp (wpF_X5_isWord_8_14 K) n14) x3 σ := h
      unfold wpS_X5_isWord_8_14 at h
      refine lv_iload_n hx hb ddX5_isWord_14 rfl (lv_at hl 2 rfl) ?_
      refine lv_aload_n hx hb ddX5_isWord_15 rfl (lv_at hl 1 rfl) ?_
      refine k_RI (As := []) (rest := [.int x3]) (cS_length l X (i := 8) (by decide) (K := fun r s => r = (2 : Int32) ∧ s = σ) ⟨by decide, rfl⟩) mf_J0_length_8abf5 lk1497 hx hb hml hown ht hK hZ hS hA (vk_recv hZ.1 (by decide) hS.2.2) ⟨rfl, rfl⟩ ⟨Nat.le_of_ble_eq_true rfl, Nat.le_of_ble_eq_true rfl⟩ rfl hl.1 rfl (Nat.le_of_ble_eq_true rfl) ⟨Nat.le_of_ble_eq_true rfl, Nat.le_of_ble_eq_true rfl⟩ ddX5_isWord_16 (fun r9 s9 H locs hS h9 => ?_)
      rw [h9.2] at hS
      rw [h9.1]
      refine lv_icmp_ge (tgt := 42) hx hb ddX5_isWord_19 (by decide) (fun c2 => ?_) (fun c2 => ?_)
      · replace h := h.1 c2
        refine lv_iconst (v := (1 : Int32)) hx hb ddX5_isWord_42 (by decide) ?_
        exact k_zret hx hb hr hlocks hK hS rfl h ddX5_isWord_43
      · replace h := h.2 c2
        refine lv_aload_n hx hb ddX5_isWord_22 rfl (lv_at hl 0 rfl) ?_
        refine lv_aload_n hx hb ddX5_isWord_23 rfl (lv_at hl 1 rfl) ?_
        refine lv_iload_n hx hb ddX5_isWord_24 rfl (lv_at hl 2 rfl) ?_
        refine k_RI (As := [.int x3]) (rest := [.ref (ga X 25)]) (cS_charAt l X (i := 8) (by decide) (K := fun r s => r = sch 8 x3 ∧ s = σ) ⟨h.1, rfl, rfl⟩) mf_J0_charAt_5068e lk1498 hx hb hml hown ht hK hZ hS hA (vk_recv hZ.1 (by decide) hS.2.2) ⟨rfl, rfl⟩ ⟨Nat.le_of_ble_eq_true rfl, Nat.le_of_ble_eq_true rfl⟩ rfl hl.1 rfl (Nat.le_of_ble_eq_true rfl) ⟨Nat.le_of_ble_eq_true rfl, Nat.le_of_ble_eq_true rfl⟩ ddX5_isWord_25 (fun r9 s9 H locs hS h9 => ?_)
        replace h := h.2
        rw [h9.2] at hS
        rw [h9.1]
        refine k_VI (As := [.int (sch 8 x3)]) (rest := []) (c_X5_skips l X h) mf_X5_skips lk1480 hx hb hml hown ht hK hZ hS hA 25 5 rfl rfl rfl ⟨rfl, rfl⟩ ⟨Nat.le_of_ble_eq_true rfl, Nat.le_of_ble_eq_true rfl⟩ rfl hl.1 rfl (Nat.le_of_ble_eq_true rfl) ⟨Nat.le_of_ble_eq_true rfl, Nat.le_of_ble_eq_true rfl⟩ ddX5_isWord_28 (fun r4 σ3 H locs hS h => ?_)
        refine lv_if_ne (tgt := 36) hx hb ddX5_isWord_31 (by decide) (fun c5 => ?_) (fun c5 => ?_)
        · replace h := h.1 c5
          obtain ⟨v6, ev6⟩ : ∃ y : Int32, y = x3 + (1 : Int32) := ⟨_, rfl⟩
          replace h := h v6 ev6
          refine lv_iinc (v := v6) (lv' := [(3, .int v6), (0, .ref (ga X 25)), (2, .ref (gK X 8))]) hx hb ddX5_isWord_36 hl (k := 2) rfl (by rw [ev6]; rfl) (by decide) rfl (fun ls hl => ?_)
          refine lv_goto (tgt := 14) hx hb ddX5_isWord_39 (by decide) ?_
          exact ih14 _ _ _ _ _ hS (lv_sub hl [1, 2, 0] rfl) h
        · replace h := h.2 c5
          refine lv_iconst (v := (0 : Int32)) hx hb ddX5_isWord_34 (by decide) ?_
          exact k_zret hx hb hr hlocks hK hS rfl h ddX5_isWord_35
  unfold wp_X5_isWord_8 at h
  refine lv_aload_n hx hb ddX5_isWord_0 rfl (lv_at hl 0 rfl) ?_
  refine get_25_19 hx hb hown ht hK hS lk1143 ddX5_isWord_1 ?_
  refine lv_iconst (v := (4 : Int32)) hx hb ddX5_isWord_4 (by decide) ?_
  refine lv_aload_n hx hb ddX5_isWord_5 rfl (lv_at hl 0 rfl) ?_
  refine get_25_20 hx hb hown ht hK hS lk1144 ddX5_isWord_6 ?_
  refine lv_imul hx hb ddX5_isWord_9 ?_
  refine lv_iload_n hx hb ddX5_isWord_10 rfl (lv_at hl 1 rfl) ?_
  refine ast_33 hx hb hK hS h.1 ddX5_isWord_11 (fun H locs hS => ?_)
  replace h := h.2
  obtain ⟨σ1, eσ1⟩ : ∃ y : Mem, y = (st σ 33 ((4 : Int32) * (σ 25 20)).toNatClampNeg x1) := ⟨_, rfl⟩
  rw [← eσ1] at hS
  replace h := h σ1 eσ1
  refine lv_iconst (v := (0 : Int32)) hx hb ddX5_isWord_12 (by decide) ?_
  refine lv_istore_n (lv' := [(3, .int (0 : Int32)), (0, .ref (ga X 25)), (1, .int x1), (2, .ref (gK X 8))]) hx hb ddX5_isWord_13 rfl hl (by decide) rfl (fun ls hl => ?_)
  obtain ⟨n, h⟩ := h
  exact hL14 n _ _ _ _ _ hS (lv_sub hl [1, 3, 0] rfl) h

set_option maxHeartbeats 4000000 in
set_option maxRecDepth 100000 in
theorem c_X5_isWord_9 (l : Launch) (X : GX) {x1 : Int32} {σ : Mem} {K : Int32 → Mem → Prop} (h : wp_X5_isWord_9 x1 σ K) : MI l X yX5_isWord cX5_isWord 4 ((Option.some Jvm.ClassFile.FieldType.boolean)) ({ frames := 4, cells := 0, slots := 0, locals := 85 } : Room) [.ref (ga X 25), .int x1, .ref (gK X 9)] σ K := by
  refine ent_met (QQ := fun A => va_Qi K (BW X A) A) (by decide) (Nat.le_of_ble_eq_true rfl) ?_
  intro p e s m args below meth c A ls hx hb hr hlocks hml hown ht hK hZ hA hS hl
  have hown : s.vm.findClass "GuardRosterModel" = some m.cls := hown
  have hl : lv_has ls 4 [(0, .ref (ga X 25)), (1, .int x1), (2, .ref (gK X 9))] := hl
  have hL14 : ∀ (n : Nat) (x3 : Int32) (σ : Mem) (H : Heap) (locs : List Loc) (ls : Array Slot), WS X A s.heap σ H locs → lv_has ls 4 [(0, .ref (ga X 25)), (2, .ref (gK X 9)), (3, .int x3)] → wlp (wpF_X5_isWord_9_14 K) n (x3, σ) → WI X K p l e ({ frames := 4, cells := 0, slots := 0, locals := 85 } : Room) s m args below meth c A H locs (F0 m 14 ls []) := by
    intro n14
    induction n14 with
    | zero => intro x3 σ H locs ls hS hl h; exact h.elim
    | succ n14 ih14 =>
      intro x3 σ H locs ls hS hl h
      replace h : wpS_X5_isWord_9_14 K (wlp (wpF_X5_isWord_9_14 K) n14) x3 σ := h
      unfold wpS_X5_isWord_9_14 at h
      refine lv_iload_n hx hb ddX5_isWord_14 rfl (lv_at hl 2 rfl) ?_
      refine lv_aload_n hx hb ddX5_isWord_15 rfl (lv_at hl 1 rfl) ?_
      refine k_RI (As := []) (rest := [.int x3]) (cS_length l X (i := 9) (by decide) (K := fun r s => r = (3 : Int32) ∧ s = σ) ⟨by decide, rfl⟩) mf_J0_length_8abf5 lk1497 hx hb hml hown ht hK hZ hS hA (vk_recv hZ.1 (by decide) hS.2.2) ⟨rfl, rfl⟩ ⟨Nat.le_of_ble_eq_true rfl, Nat.le_of_ble_eq_true rfl⟩ rfl hl.1 rfl (Nat.le_of_ble_eq_true rfl) ⟨Nat.le_of_ble_eq_true rfl, Nat.le_of_ble_eq_true rfl⟩ ddX5_isWord_16 (fun r9 s9 H locs hS h9 => ?_)
      rw [h9.2] at hS
      rw [h9.1]
      refine lv_icmp_ge (tgt := 42) hx hb ddX5_isWord_19 (by decide) (fun c2 => ?_) (fun c2 => ?_)
      · replace h := h.1 c2
        refine lv_iconst (v := (1 : Int32)) hx hb ddX5_isWord_42 (by decide) ?_
        exact k_zret hx hb hr hlocks hK hS rfl h ddX5_isWord_43
      · replace h := h.2 c2
        refine lv_aload_n hx hb ddX5_isWord_22 rfl (lv_at hl 0 rfl) ?_
        refine lv_aload_n hx hb ddX5_isWord_23 rfl (lv_at hl 1 rfl) ?_
        refine lv_iload_n hx hb ddX5_isWord_24 rfl (lv_at hl 2 rfl) ?_
        refine k_RI (As := [.int x3]) (rest := [.ref (ga X 25)]) (cS_charAt l X (i := 9) (by decide) (K := fun r s => r = sch 9 x3 ∧ s = σ) ⟨h.1, rfl, rfl⟩) mf_J0_charAt_5068e lk1498 hx hb hml hown ht hK hZ hS hA (vk_recv hZ.1 (by decide) hS.2.2) ⟨rfl, rfl⟩ ⟨Nat.le_of_ble_eq_true rfl, Nat.le_of_ble_eq_true rfl⟩ rfl hl.1 rfl (Nat.le_of_ble_eq_true rfl) ⟨Nat.le_of_ble_eq_true rfl, Nat.le_of_ble_eq_true rfl⟩ ddX5_isWord_25 (fun r9 s9 H locs hS h9 => ?_)
        replace h := h.2
        rw [h9.2] at hS
        rw [h9.1]
        refine k_VI (As := [.int (sch 9 x3)]) (rest := []) (c_X5_skips l X h) mf_X5_skips lk1480 hx hb hml hown ht hK hZ hS hA 25 5 rfl rfl rfl ⟨rfl, rfl⟩ ⟨Nat.le_of_ble_eq_true rfl, Nat.le_of_ble_eq_true rfl⟩ rfl hl.1 rfl (Nat.le_of_ble_eq_true rfl) ⟨Nat.le_of_ble_eq_true rfl, Nat.le_of_ble_eq_true rfl⟩ ddX5_isWord_28 (fun r4 σ3 H locs hS h => ?_)
        refine lv_if_ne (tgt := 36) hx hb ddX5_isWord_31 (by decide) (fun c5 => ?_) (fun c5 => ?_)
        · replace h := h.1 c5
          obtain ⟨v6, ev6⟩ : ∃ y : Int32, y = x3 + (1 : Int32) := ⟨_, rfl⟩
          replace h := h v6 ev6
          refine lv_iinc (v := v6) (lv' := [(3, .int v6), (0, .ref (ga X 25)), (2, .ref (gK X 9))]) hx hb ddX5_isWord_36 hl (k := 2) rfl (by rw [ev6]; rfl) (by decide) rfl (fun ls hl => ?_)
          refine lv_goto (tgt := 14) hx hb ddX5_isWord_39 (by decide) ?_
          exact ih14 _ _ _ _ _ hS (lv_sub hl [1, 2, 0] rfl) h
        · replace h := h.2 c5
          refine lv_iconst (v := (0 : Int32)) hx hb ddX5_isWord_34 (by decide) ?_
          exact k_zret hx hb hr hlocks hK hS rfl h ddX5_isWord_35
  unfold wp_X5_isWord_9 at h
  refine lv_aload_n hx hb ddX5_isWord_0 rfl (lv_at hl 0 rfl) ?_
  refine get_25_19 hx hb hown ht hK hS lk1143 ddX5_isWord_1 ?_
  refine lv_iconst (v := (4 : Int32)) hx hb ddX5_isWord_4 (by decide) ?_
  refine lv_aload_n hx hb ddX5_isWord_5 rfl (lv_at hl 0 rfl) ?_
  refine get_25_20 hx hb hown ht hK hS lk1144 ddX5_isWord_6 ?_
  refine lv_imul hx hb ddX5_isWord_9 ?_
  refine lv_iload_n hx hb ddX5_isWord_10 rfl (lv_at hl 1 rfl) ?_
  refine ast_33 hx hb hK hS h.1 ddX5_isWord_11 (fun H locs hS => ?_)
  replace h := h.2
  obtain ⟨σ1, eσ1⟩ : ∃ y : Mem, y = (st σ 33 ((4 : Int32) * (σ 25 20)).toNatClampNeg x1) := ⟨_, rfl⟩
  rw [← eσ1] at hS
  replace h := h σ1 eσ1
  refine lv_iconst (v := (0 : Int32)) hx hb ddX5_isWord_12 (by decide) ?_
  refine lv_istore_n (lv' := [(3, .int (0 : Int32)), (0, .ref (ga X 25)), (1, .int x1), (2, .ref (gK X 9))]) hx hb ddX5_isWord_13 rfl hl (by decide) rfl (fun ls hl => ?_)
  obtain ⟨n, h⟩ := h
  exact hL14 n _ _ _ _ _ hS (lv_sub hl [1, 3, 0] rfl) h

set_option maxHeartbeats 4000000 in
set_option maxRecDepth 100000 in
theorem c_X5_isWord_10 (l : Launch) (X : GX) {x1 : Int32} {σ : Mem} {K : Int32 → Mem → Prop} (h : wp_X5_isWord_10 x1 σ K) : MI l X yX5_isWord cX5_isWord 4 ((Option.some Jvm.ClassFile.FieldType.boolean)) ({ frames := 4, cells := 0, slots := 0, locals := 85 } : Room) [.ref (ga X 25), .int x1, .ref (gK X 10)] σ K := by
  refine ent_met (QQ := fun A => va_Qi K (BW X A) A) (by decide) (Nat.le_of_ble_eq_true rfl) ?_
  intro p e s m args below meth c A ls hx hb hr hlocks hml hown ht hK hZ hA hS hl
  have hown : s.vm.findClass "GuardRosterModel" = some m.cls := hown
  have hl : lv_has ls 4 [(0, .ref (ga X 25)), (1, .int x1), (2, .ref (gK X 10))] := hl
  have hL14 : ∀ (n : Nat) (x3 : Int32) (σ : Mem) (H : Heap) (locs : List Loc) (ls : Array Slot), WS X A s.heap σ H locs → lv_has ls 4 [(0, .ref (ga X 25)), (2, .ref (gK X 10)), (3, .int x3)] → wlp (wpF_X5_isWord_10_14 K) n (x3, σ) → WI X K p l e ({ frames := 4, cells := 0, slots := 0, locals := 85 } : Room) s m args below meth c A H locs (F0 m 14 ls []) := by
    intro n14
    induction n14 with
    | zero => intro x3 σ H locs ls hS hl h; exact h.elim
    | succ n14 ih14 =>
      intro x3 σ H locs ls hS hl h
      replace h : wpS_X5_isWord_10_14 K (wlp (wpF_X5_isWord_10_14 K) n14) x3 σ := h
      unfold wpS_X5_isWord_10_14 at h
      refine lv_iload_n hx hb ddX5_isWord_14 rfl (lv_at hl 2 rfl) ?_
      refine lv_aload_n hx hb ddX5_isWord_15 rfl (lv_at hl 1 rfl) ?_
      refine k_RI (As := []) (rest := [.int x3]) (cS_length l X (i := 10) (by decide) (K := fun r s => r = (2 : Int32) ∧ s = σ) ⟨by decide, rfl⟩) mf_J0_length_8abf5 lk1497 hx hb hml hown ht hK hZ hS hA (vk_recv hZ.1 (by decide) hS.2.2) ⟨rfl, rfl⟩ ⟨Nat.le_of_ble_eq_true rfl, Nat.le_of_ble_eq_true rfl⟩ rfl hl.1 rfl (Nat.le_of_ble_eq_true rfl) ⟨Nat.le_of_ble_eq_true rfl, Nat.le_of_ble_eq_true rfl⟩ ddX5_isWord_16 (fun r9 s9 H locs hS h9 => ?_)
      rw [h9.2] at hS
      rw [h9.1]
      refine lv_icmp_ge (tgt := 42) hx hb ddX5_isWord_19 (by decide) (fun c2 => ?_) (fun c2 => ?_)
      · replace h := h.1 c2
        refine lv_iconst (v := (1 : Int32)) hx hb ddX5_isWord_42 (by decide) ?_
        exact k_zret hx hb hr hlocks hK hS rfl h ddX5_isWord_43
      · replace h := h.2 c2
        refine lv_aload_n hx hb ddX5_isWord_22 rfl (lv_at hl 0 rfl) ?_
        refine lv_aload_n hx hb ddX5_isWord_23 rfl (lv_at hl 1 rfl) ?_
        refine lv_iload_n hx hb ddX5_isWord_24 rfl (lv_at hl 2 rfl) ?_
        refine k_RI (As := [.int x3]) (rest := [.ref (ga X 25)]) (cS_charAt l X (i := 10) (by decide) (K := fun r s => r = sch 10 x3 ∧ s = σ) ⟨h.1, rfl, rfl⟩) mf_J0_charAt_5068e lk1498 hx hb hml hown ht hK hZ hS hA (vk_recv hZ.1 (by decide) hS.2.2) ⟨rfl, rfl⟩ ⟨Nat.le_of_ble_eq_true rfl, Nat.le_of_ble_eq_true rfl⟩ rfl hl.1 rfl (Nat.le_of_ble_eq_true rfl) ⟨Nat.le_of_ble_eq_true rfl, Nat.le_of_ble_eq_true rfl⟩ ddX5_isWord_25 (fun r9 s9 H locs hS h9 => ?_)
        replace h := h.2
        rw [h9.2] at hS
        rw [h9.1]
        refine k_VI (As := [.int (sch 10 x3)]) (rest := []) (c_X5_skips l X h) mf_X5_skips lk1480 hx hb hml hown ht hK hZ hS hA 25 5 rfl rfl rfl ⟨rfl, rfl⟩ ⟨Nat.le_of_ble_eq_true rfl, Nat.le_of_ble_eq_true rfl⟩ rfl hl.1 rfl (Nat.le_of_ble_eq_true rfl) ⟨Nat.le_of_ble_eq_true rfl, Nat.le_of_ble_eq_true rfl⟩ ddX5_isWord_28 (fun r4 σ3 H locs hS h => ?_)
        refine lv_if_ne (tgt := 36) hx hb ddX5_isWord_31 (by decide) (fun c5 => ?_) (fun c5 => ?_)
        · replace h := h.1 c5
          obtain ⟨v6, ev6⟩ : ∃ y : Int32, y = x3 + (1 : Int32) := ⟨_, rfl⟩
          replace h := h v6 ev6
          refine lv_iinc (v := v6) (lv' := [(3, .int v6), (0, .ref (ga X 25)), (2, .ref (gK X 10))]) hx hb ddX5_isWord_36 hl (k := 2) rfl (by rw [ev6]; rfl) (by decide) rfl (fun ls hl => ?_)
          refine lv_goto (tgt := 14) hx hb ddX5_isWord_39 (by decide) ?_
          exact ih14 _ _ _ _ _ hS (lv_sub hl [1, 2, 0] rfl) h
        · replace h := h.2 c5
          refine lv_iconst (v := (0 : Int32)) hx hb ddX5_isWord_34 (by decide) ?_
          exact k_zret hx hb hr hlocks hK hS rfl h ddX5_isWord_35
  unfold wp_X5_isWord_10 at h
  refine lv_aload_n hx hb ddX5_isWord_0 rfl (lv_at hl 0 rfl) ?_
  refine get_25_19 hx hb hown ht hK hS lk1143 ddX5_isWord_1 ?_
  refine lv_iconst (v := (4 : Int32)) hx hb ddX5_isWord_4 (by decide) ?_
  refine lv_aload_n hx hb ddX5_isWord_5 rfl (lv_at hl 0 rfl) ?_
  refine get_25_20 hx hb hown ht hK hS lk1144 ddX5_isWord_6 ?_
  refine lv_imul hx hb ddX5_isWord_9 ?_
  refine lv_iload_n hx hb ddX5_isWord_10 rfl (lv_at hl 1 rfl) ?_
  refine ast_33 hx hb hK hS h.1 ddX5_isWord_11 (fun H locs hS => ?_)
  replace h := h.2
  obtain ⟨σ1, eσ1⟩ : ∃ y : Mem, y = (st σ 33 ((4 : Int32) * (σ 25 20)).toNatClampNeg x1) := ⟨_, rfl⟩
  rw [← eσ1] at hS
  replace h := h σ1 eσ1
  refine lv_iconst (v := (0 : Int32)) hx hb ddX5_isWord_12 (by decide) ?_
  refine lv_istore_n (lv' := [(3, .int (0 : Int32)), (0, .ref (ga X 25)), (1, .int x1), (2, .ref (gK X 10))]) hx hb ddX5_isWord_13 rfl hl (by decide) rfl (fun ls hl => ?_)
  obtain ⟨n, h⟩ := h
  exact hL14 n _ _ _ _ _ hS (lv_sub hl [1, 3, 0] rfl) h

set_option maxHeartbeats 4000000 in
set_option maxRecDepth 100000 in
theorem c_X5_isWord_11 (l : Launch) (X : GX) {x1 : Int32} {σ : Mem} {K : Int32 → Mem → Prop} (h : wp_X5_isWord_11 x1 σ K) : MI l X yX5_isWord cX5_isWord 4 ((Option.some Jvm.ClassFile.FieldType.boolean)) ({ frames := 4, cells := 0, slots := 0, locals := 85 } : Room) [.ref (ga X 25), .int x1, .ref (gK X 11)] σ K := by
  refine ent_met (QQ := fun A => va_Qi K (BW X A) A) (by decide) (Nat.le_of_ble_eq_true rfl) ?_
  intro p e s m args below meth c A ls hx hb hr hlocks hml hown ht hK hZ hA hS hl
  have hown : s.vm.findClass "GuardRosterModel" = some m.cls := hown
  have hl : lv_has ls 4 [(0, .ref (ga X 25)), (1, .int x1), (2, .ref (gK X 11))] := hl
  have hL14 : ∀ (n : Nat) (x3 : Int32) (σ : Mem) (H : Heap) (locs : List Loc) (ls : Array Slot), WS X A s.heap σ H locs → lv_has ls 4 [(0, .ref (ga X 25)), (2, .ref (gK X 11)), (3, .int x3)] → wlp (wpF_X5_isWord_11_14 K) n (x3, σ) → WI X K p l e ({ frames := 4, cells := 0, slots := 0, locals := 85 } : Room) s m args below meth c A H locs (F0 m 14 ls []) := by
    intro n14
    induction n14 with
    | zero => intro x3 σ H locs ls hS hl h; exact h.elim
    | succ n14 ih14 =>
      intro x3 σ H locs ls hS hl h
      replace h : wpS_X5_isWord_11_14 K (wlp (wpF_X5_isWord_11_14 K) n14) x3 σ := h
      unfold wpS_X5_isWord_11_14 at h
      refine lv_iload_n hx hb ddX5_isWord_14 rfl (lv_at hl 2 rfl) ?_
      refine lv_aload_n hx hb ddX5_isWord_15 rfl (lv_at hl 1 rfl) ?_
      refine k_RI (As := []) (rest := [.int x3]) (cS_length l X (i := 11) (by decide) (K := fun r s => r = (2 : Int32) ∧ s = σ) ⟨by decide, rfl⟩) mf_J0_length_8abf5 lk1497 hx hb hml hown ht hK hZ hS hA (vk_recv hZ.1 (by decide) hS.2.2) ⟨rfl, rfl⟩ ⟨Nat.le_of_ble_eq_true rfl, Nat.le_of_ble_eq_true rfl⟩ rfl hl.1 rfl (Nat.le_of_ble_eq_true rfl) ⟨Nat.le_of_ble_eq_true rfl, Nat.le_of_ble_eq_true rfl⟩ ddX5_isWord_16 (fun r9 s9 H locs hS h9 => ?_)
      rw [h9.2] at hS
      rw [h9.1]
      refine lv_icmp_ge (tgt := 42) hx hb ddX5_isWord_19 (by decide) (fun c2 => ?_) (fun c2 => ?_)
      · replace h := h.1 c2
        refine lv_iconst (v := (1 : Int32)) hx hb ddX5_isWord_42 (by decide) ?_
        exact k_zret hx hb hr hlocks hK hS rfl h ddX5_isWord_43
      · replace h := h.2 c2
        refine lv_aload_n hx hb ddX5_isWord_22 rfl (lv_at hl 0 rfl) ?_
        refine lv_aload_n hx hb ddX5_isWord_23 rfl (lv_at hl 1 rfl) ?_
        refine lv_iload_n hx hb ddX5_isWord_24 rfl (lv_at hl 2 rfl) ?_
        refine k_RI (As := [.int x3]) (rest := [.ref (ga X 25)]) (cS_charAt l X (i := 11) (by decide) (K := fun r s => r = sch 11 x3 ∧ s = σ) ⟨h.1, rfl, rfl⟩) mf_J0_charAt_5068e lk1498 hx hb hml hown ht hK hZ hS hA (vk_recv hZ.1 (by decide) hS.2.2) ⟨rfl, rfl⟩ ⟨Nat.le_of_ble_eq_true rfl, Nat.le_of_ble_eq_true rfl⟩ rfl hl.1 rfl (Nat.le_of_ble_eq_true rfl) ⟨Nat.le_of_ble_eq_true rfl, Nat.le_of_ble_eq_true rfl⟩ ddX5_isWord_25 (fun r9 s9 H locs hS h9 => ?_)
        replace h := h.2
        rw [h9.2] at hS
        rw [h9.1]
        refine k_VI (As := [.int (sch 11 x3)]) (rest := []) (c_X5_skips l X h) mf_X5_skips lk1480 hx hb hml hown ht hK hZ hS hA 25 5 rfl rfl rfl ⟨rfl, rfl⟩ ⟨Nat.le_of_ble_eq_true rfl, Nat.le_of_ble_eq_true rfl⟩ rfl hl.1 rfl (Nat.le_of_ble_eq_true rfl) ⟨Nat.le_of_ble_eq_true rfl, Nat.le_of_ble_eq_true rfl⟩ ddX5_isWord_28 (fun r4 σ3 H locs hS h => ?_)
        refine lv_if_ne (tgt := 36) hx hb ddX5_isWord_31 (by decide) (fun c5 => ?_) (fun c5 => ?_)
        · replace h := h.1 c5
          obtain ⟨v6, ev6⟩ : ∃ y : Int32, y = x3 + (1 : Int32) := ⟨_, rfl⟩
          replace h := h v6 ev6
          refine lv_iinc (v := v6) (lv' := [(3, .int v6), (0, .ref (ga X 25)), (2, .ref (gK X 11))]) hx hb ddX5_isWord_36 hl (k := 2) rfl (by rw [ev6]; rfl) (by decide) rfl (fun ls hl => ?_)
          refine lv_goto (tgt := 14) hx hb ddX5_isWord_39 (by decide) ?_
          exact ih14 _ _ _ _ _ hS (lv_sub hl [1, 2, 0] rfl) h
        · replace h := h.2 c5
          refine lv_iconst (v := (0 : Int32)) hx hb ddX5_isWord_34 (by decide) ?_
          exact k_zret hx hb hr hlocks hK hS rfl h ddX5_isWord_35
  unfold wp_X5_isWord_11 at h
  refine lv_aload_n hx hb ddX5_isWord_0 rfl (lv_at hl 0 rfl) ?_
  refine get_25_19 hx hb hown ht hK hS lk1143 ddX5_isWord_1 ?_
  refine lv_iconst (v := (4 : Int32)) hx hb ddX5_isWord_4 (by decide) ?_
  refine lv_aload_n hx hb ddX5_isWord_5 rfl (lv_at hl 0 rfl) ?_
  refine get_25_20 hx hb hown ht hK hS lk1144 ddX5_isWord_6 ?_
  refine lv_imul hx hb ddX5_isWord_9 ?_
  refine lv_iload_n hx hb ddX5_isWord_10 rfl (lv_at hl 1 rfl) ?_
  refine ast_33 hx hb hK hS h.1 ddX5_isWord_11 (fun H locs hS => ?_)
  replace h := h.2
  obtain ⟨σ1, eσ1⟩ : ∃ y : Mem, y = (st σ 33 ((4 : Int32) * (σ 25 20)).toNatClampNeg x1) := ⟨_, rfl⟩
  rw [← eσ1] at hS
  replace h := h σ1 eσ1
  refine lv_iconst (v := (0 : Int32)) hx hb ddX5_isWord_12 (by decide) ?_
  refine lv_istore_n (lv' := [(3, .int (0 : Int32)), (0, .ref (ga X 25)), (1, .int x1), (2, .ref (gK X 11))]) hx hb ddX5_isWord_13 rfl hl (by decide) rfl (fun ls hl => ?_)
  obtain ⟨n, h⟩ := h
  exact hL14 n _ _ _ _ _ hS (lv_sub hl [1, 3, 0] rfl) h

set_option maxHeartbeats 4000000 in
set_option maxRecDepth 100000 in
theorem c_X5_isWord_12 (l : Launch) (X : GX) {x1 : Int32} {σ : Mem} {K : Int32 → Mem → Prop} (h : wp_X5_isWord_12 x1 σ K) : MI l X yX5_isWord cX5_isWord 4 ((Option.some Jvm.ClassFile.FieldType.boolean)) ({ frames := 4, cells := 0, slots := 0, locals := 85 } : Room) [.ref (ga X 25), .int x1, .ref (gK X 12)] σ K := by
  refine ent_met (QQ := fun A => va_Qi K (BW X A) A) (by decide) (Nat.le_of_ble_eq_true rfl) ?_
  intro p e s m args below meth c A ls hx hb hr hlocks hml hown ht hK hZ hA hS hl
  have hown : s.vm.findClass "GuardRosterModel" = some m.cls := hown
  have hl : lv_has ls 4 [(0, .ref (ga X 25)), (1, .int x1), (2, .ref (gK X 12))] := hl
  have hL14 : ∀ (n : Nat) (x3 : Int32) (σ : Mem) (H : Heap) (locs : List Loc) (ls : Array Slot), WS X A s.heap σ H locs → lv_has ls 4 [(0, .ref (ga X 25)), (2, .ref (gK X 12)), (3, .int x3)] → wlp (wpF_X5_isWord_12_14 K) n (x3, σ) → WI X K p l e ({ frames := 4, cells := 0, slots := 0, locals := 85 } : Room) s m args below meth c A H locs (F0 m 14 ls []) := by
    intro n14
    induction n14 with
    | zero => intro x3 σ H locs ls hS hl h; exact h.elim
    | succ n14 ih14 =>
      intro x3 σ H locs ls hS hl h
      replace h : wpS_X5_isWord_12_14 K (wlp (wpF_X5_isWord_12_14 K) n14) x3 σ := h
      unfold wpS_X5_isWord_12_14 at h
      refine lv_iload_n hx hb ddX5_isWord_14 rfl (lv_at hl 2 rfl) ?_
      refine lv_aload_n hx hb ddX5_isWord_15 rfl (lv_at hl 1 rfl) ?_
      refine k_RI (As := []) (rest := [.int x3]) (cS_length l X (i := 12) (by decide) (K := fun r s => r = (2 : Int32) ∧ s = σ) ⟨by decide, rfl⟩) mf_J0_length_8abf5 lk1497 hx hb hml hown ht hK hZ hS hA (vk_recv hZ.1 (by decide) hS.2.2) ⟨rfl, rfl⟩ ⟨Nat.le_of_ble_eq_true rfl, Nat.le_of_ble_eq_true rfl⟩ rfl hl.1 rfl (Nat.le_of_ble_eq_true rfl) ⟨Nat.le_of_ble_eq_true rfl, Nat.le_of_ble_eq_true rfl⟩ ddX5_isWord_16 (fun r9 s9 H locs hS h9 => ?_)
      rw [h9.2] at hS
      rw [h9.1]
      refine lv_icmp_ge (tgt := 42) hx hb ddX5_isWord_19 (by decide) (fun c2 => ?_) (fun c2 => ?_)
      · replace h := h.1 c2
        refine lv_iconst (v := (1 : Int32)) hx hb ddX5_isWord_42 (by decide) ?_
        exact k_zret hx hb hr hlocks hK hS rfl h ddX5_isWord_43
      · replace h := h.2 c2
        refine lv_aload_n hx hb ddX5_isWord_22 rfl (lv_at hl 0 rfl) ?_
        refine lv_aload_n hx hb ddX5_isWord_23 rfl (lv_at hl 1 rfl) ?_
        refine lv_iload_n hx hb ddX5_isWord_24 rfl (lv_at hl 2 rfl) ?_
        refine k_RI (As := [.int x3]) (rest := [.ref (ga X 25)]) (cS_charAt l X (i := 12) (by decide) (K := fun r s => r = sch 12 x3 ∧ s = σ) ⟨h.1, rfl, rfl⟩) mf_J0_charAt_5068e lk1498 hx hb hml hown ht hK hZ hS hA (vk_recv hZ.1 (by decide) hS.2.2) ⟨rfl, rfl⟩ ⟨Nat.le_of_ble_eq_true rfl, Nat.le_of_ble_eq_true rfl⟩ rfl hl.1 rfl (Nat.le_of_ble_eq_true rfl) ⟨Nat.le_of_ble_eq_true rfl, Nat.le_of_ble_eq_true rfl⟩ ddX5_isWord_25 (fun r9 s9 H locs hS h9 => ?_)
        replace h := h.2
        rw [h9.2] at hS
        rw [h9.1]
        refine k_VI (As := [.int (sch 12 x3)]) (rest := []) (c_X5_skips l X h) mf_X5_skips lk1480 hx hb hml hown ht hK hZ hS hA 25 5 rfl rfl rfl ⟨rfl, rfl⟩ ⟨Nat.le_of_ble_eq_true rfl, Nat.le_of_ble_eq_true rfl⟩ rfl hl.1 rfl (Nat.le_of_ble_eq_true rfl) ⟨Nat.le_of_ble_eq_true rfl, Nat.le_of_ble_eq_true rfl⟩ ddX5_isWord_28 (fun r4 σ3 H locs hS h => ?_)
        refine lv_if_ne (tgt := 36) hx hb ddX5_isWord_31 (by decide) (fun c5 => ?_) (fun c5 => ?_)
        · replace h := h.1 c5
          obtain ⟨v6, ev6⟩ : ∃ y : Int32, y = x3 + (1 : Int32) := ⟨_, rfl⟩
          replace h := h v6 ev6
          refine lv_iinc (v := v6) (lv' := [(3, .int v6), (0, .ref (ga X 25)), (2, .ref (gK X 12))]) hx hb ddX5_isWord_36 hl (k := 2) rfl (by rw [ev6]; rfl) (by decide) rfl (fun ls hl => ?_)
          refine lv_goto (tgt := 14) hx hb ddX5_isWord_39 (by decide) ?_
          exact ih14 _ _ _ _ _ hS (lv_sub hl [1, 2, 0] rfl) h
        · replace h := h.2 c5
          refine lv_iconst (v := (0 : Int32)) hx hb ddX5_isWord_34 (by decide) ?_
          exact k_zret hx hb hr hlocks hK hS rfl h ddX5_isWord_35
  unfold wp_X5_isWord_12 at h
  refine lv_aload_n hx hb ddX5_isWord_0 rfl (lv_at hl 0 rfl) ?_
  refine get_25_19 hx hb hown ht hK hS lk1143 ddX5_isWord_1 ?_
  refine lv_iconst (v := (4 : Int32)) hx hb ddX5_isWord_4 (by decide) ?_
  refine lv_aload_n hx hb ddX5_isWord_5 rfl (lv_at hl 0 rfl) ?_
  refine get_25_20 hx hb hown ht hK hS lk1144 ddX5_isWord_6 ?_
  refine lv_imul hx hb ddX5_isWord_9 ?_
  refine lv_iload_n hx hb ddX5_isWord_10 rfl (lv_at hl 1 rfl) ?_
  refine ast_33 hx hb hK hS h.1 ddX5_isWord_11 (fun H locs hS => ?_)
  replace h := h.2
  obtain ⟨σ1, eσ1⟩ : ∃ y : Mem, y = (st σ 33 ((4 : Int32) * (σ 25 20)).toNatClampNeg x1) := ⟨_, rfl⟩
  rw [← eσ1] at hS
  replace h := h σ1 eσ1
  refine lv_iconst (v := (0 : Int32)) hx hb ddX5_isWord_12 (by decide) ?_
  refine lv_istore_n (lv' := [(3, .int (0 : Int32)), (0, .ref (ga X 25)), (1, .int x1), (2, .ref (gK X 12))]) hx hb ddX5_isWord_13 rfl hl (by decide) rfl (fun ls hl => ?_)
  obtain ⟨n, h⟩ := h
  exact hL14 n _ _ _ _ _ hS (lv_sub hl [1, 3, 0] rfl) h

set_option maxHeartbeats 4000000 in
set_option maxRecDepth 100000 in
theorem c_X5_isWord_13 (l : Launch) (X : GX) {x1 : Int32} {σ : Mem} {K : Int32 → Mem → Prop} (h : wp_X5_isWord_13 x1 σ K) : MI l X yX5_isWord cX5_isWord 4 ((Option.some Jvm.ClassFile.FieldType.boolean)) ({ frames := 4, cells := 0, slots := 0, locals := 85 } : Room) [.ref (ga X 25), .int x1, .ref (gK X 13)] σ K := by
  refine ent_met (QQ := fun A => va_Qi K (BW X A) A) (by decide) (Nat.le_of_ble_eq_true rfl) ?_
  intro p e s m args below meth c A ls hx hb hr hlocks hml hown ht hK hZ hA hS hl
  have hown : s.vm.findClass "GuardRosterModel" = some m.cls := hown
  have hl : lv_has ls 4 [(0, .ref (ga X 25)), (1, .int x1), (2, .ref (gK X 13))] := hl
  have hL14 : ∀ (n : Nat) (x3 : Int32) (σ : Mem) (H : Heap) (locs : List Loc) (ls : Array Slot), WS X A s.heap σ H locs → lv_has ls 4 [(0, .ref (ga X 25)), (2, .ref (gK X 13)), (3, .int x3)] → wlp (wpF_X5_isWord_13_14 K) n (x3, σ) → WI X K p l e ({ frames := 4, cells := 0, slots := 0, locals := 85 } : Room) s m args below meth c A H locs (F0 m 14 ls []) := by
    intro n14
    induction n14 with
    | zero => intro x3 σ H locs ls hS hl h; exact h.elim
    | succ n14 ih14 =>
      intro x3 σ H locs ls hS hl h
      replace h : wpS_X5_isWord_13_14 K (wlp (wpF_X5_isWord_13_14 K) n14) x3 σ := h
      unfold wpS_X5_isWord_13_14 at h
      refine lv_iload_n hx hb ddX5_isWord_14 rfl (lv_at hl 2 rfl) ?_
      refine lv_aload_n hx hb ddX5_isWord_15 rfl (lv_at hl 1 rfl) ?_
      refine k_RI (As := []) (rest := [.int x3]) (cS_length l X (i := 13) (by decide) (K := fun r s => r = (3 : Int32) ∧ s = σ) ⟨by decide, rfl⟩) mf_J0_length_8abf5 lk1497 hx hb hml hown ht hK hZ hS hA (vk_recv hZ.1 (by decide) hS.2.2) ⟨rfl, rfl⟩ ⟨Nat.le_of_ble_eq_true rfl, Nat.le_of_ble_eq_true rfl⟩ rfl hl.1 rfl (Nat.le_of_ble_eq_true rfl) ⟨Nat.le_of_ble_eq_true rfl, Nat.le_of_ble_eq_true rfl⟩ ddX5_isWord_16 (fun r9 s9 H locs hS h9 => ?_)
      rw [h9.2] at hS
      rw [h9.1]
      refine lv_icmp_ge (tgt := 42) hx hb ddX5_isWord_19 (by decide) (fun c2 => ?_) (fun c2 => ?_)
      · replace h := h.1 c2
        refine lv_iconst (v := (1 : Int32)) hx hb ddX5_isWord_42 (by decide) ?_
        exact k_zret hx hb hr hlocks hK hS rfl h ddX5_isWord_43
      · replace h := h.2 c2
        refine lv_aload_n hx hb ddX5_isWord_22 rfl (lv_at hl 0 rfl) ?_
        refine lv_aload_n hx hb ddX5_isWord_23 rfl (lv_at hl 1 rfl) ?_
        refine lv_iload_n hx hb ddX5_isWord_24 rfl (lv_at hl 2 rfl) ?_
        refine k_RI (As := [.int x3]) (rest := [.ref (ga X 25)]) (cS_charAt l X (i := 13) (by decide) (K := fun r s => r = sch 13 x3 ∧ s = σ) ⟨h.1, rfl, rfl⟩) mf_J0_charAt_5068e lk1498 hx hb hml hown ht hK hZ hS hA (vk_recv hZ.1 (by decide) hS.2.2) ⟨rfl, rfl⟩ ⟨Nat.le_of_ble_eq_true rfl, Nat.le_of_ble_eq_true rfl⟩ rfl hl.1 rfl (Nat.le_of_ble_eq_true rfl) ⟨Nat.le_of_ble_eq_true rfl, Nat.le_of_ble_eq_true rfl⟩ ddX5_isWord_25 (fun r9 s9 H locs hS h9 => ?_)
        replace h := h.2
        rw [h9.2] at hS
        rw [h9.1]
        refine k_VI (As := [.int (sch 13 x3)]) (rest := []) (c_X5_skips l X h) mf_X5_skips lk1480 hx hb hml hown ht hK hZ hS hA 25 5 rfl rfl rfl ⟨rfl, rfl⟩ ⟨Nat.le_of_ble_eq_true rfl, Nat.le_of_ble_eq_true rfl⟩ rfl hl.1 rfl (Nat.le_of_ble_eq_true rfl) ⟨Nat.le_of_ble_eq_true rfl, Nat.le_of_ble_eq_true rfl⟩ ddX5_isWord_28 (fun r4 σ3 H locs hS h => ?_)
        refine lv_if_ne (tgt := 36) hx hb ddX5_isWord_31 (by decide) (fun c5 => ?_) (fun c5 => ?_)
        · replace h := h.1 c5
          obtain ⟨v6, ev6⟩ : ∃ y : Int32, y = x3 + (1 : Int32) := ⟨_, rfl⟩
          replace h := h v6 ev6
          refine lv_iinc (v := v6) (lv' := [(3, .int v6), (0, .ref (ga X 25)), (2, .ref (gK X 13))]) hx hb ddX5_isWord_36 hl (k := 2) rfl (by rw [ev6]; rfl) (by decide) rfl (fun ls hl => ?_)
          refine lv_goto (tgt := 14) hx hb ddX5_isWord_39 (by decide) ?_
          exact ih14 _ _ _ _ _ hS (lv_sub hl [1, 2, 0] rfl) h
        · replace h := h.2 c5
          refine lv_iconst (v := (0 : Int32)) hx hb ddX5_isWord_34 (by decide) ?_
          exact k_zret hx hb hr hlocks hK hS rfl h ddX5_isWord_35
  unfold wp_X5_isWord_13 at h
  refine lv_aload_n hx hb ddX5_isWord_0 rfl (lv_at hl 0 rfl) ?_
  refine get_25_19 hx hb hown ht hK hS lk1143 ddX5_isWord_1 ?_
  refine lv_iconst (v := (4 : Int32)) hx hb ddX5_isWord_4 (by decide) ?_
  refine lv_aload_n hx hb ddX5_isWord_5 rfl (lv_at hl 0 rfl) ?_
  refine get_25_20 hx hb hown ht hK hS lk1144 ddX5_isWord_6 ?_
  refine lv_imul hx hb ddX5_isWord_9 ?_
  refine lv_iload_n hx hb ddX5_isWord_10 rfl (lv_at hl 1 rfl) ?_
  refine ast_33 hx hb hK hS h.1 ddX5_isWord_11 (fun H locs hS => ?_)
  replace h := h.2
  obtain ⟨σ1, eσ1⟩ : ∃ y : Mem, y = (st σ 33 ((4 : Int32) * (σ 25 20)).toNatClampNeg x1) := ⟨_, rfl⟩
  rw [← eσ1] at hS
  replace h := h σ1 eσ1
  refine lv_iconst (v := (0 : Int32)) hx hb ddX5_isWord_12 (by decide) ?_
  refine lv_istore_n (lv' := [(3, .int (0 : Int32)), (0, .ref (ga X 25)), (1, .int x1), (2, .ref (gK X 13))]) hx hb ddX5_isWord_13 rfl hl (by decide) rfl (fun ls hl => ?_)
  obtain ⟨n, h⟩ := h
  exact hL14 n _ _ _ _ _ hS (lv_sub hl [1, 3, 0] rfl) h

set_option maxHeartbeats 4000000 in
set_option maxRecDepth 100000 in
theorem c_X5_isWord_14 (l : Launch) (X : GX) {x1 : Int32} {σ : Mem} {K : Int32 → Mem → Prop} (h : wp_X5_isWord_14 x1 σ K) : MI l X yX5_isWord cX5_isWord 4 ((Option.some Jvm.ClassFile.FieldType.boolean)) ({ frames := 4, cells := 0, slots := 0, locals := 85 } : Room) [.ref (ga X 25), .int x1, .ref (gK X 14)] σ K := by
  refine ent_met (QQ := fun A => va_Qi K (BW X A) A) (by decide) (Nat.le_of_ble_eq_true rfl) ?_
  intro p e s m args below meth c A ls hx hb hr hlocks hml hown ht hK hZ hA hS hl
  have hown : s.vm.findClass "GuardRosterModel" = some m.cls := hown
  have hl : lv_has ls 4 [(0, .ref (ga X 25)), (1, .int x1), (2, .ref (gK X 14))] := hl
  have hL14 : ∀ (n : Nat) (x3 : Int32) (σ : Mem) (H : Heap) (locs : List Loc) (ls : Array Slot), WS X A s.heap σ H locs → lv_has ls 4 [(0, .ref (ga X 25)), (2, .ref (gK X 14)), (3, .int x3)] → wlp (wpF_X5_isWord_14_14 K) n (x3, σ) → WI X K p l e ({ frames := 4, cells := 0, slots := 0, locals := 85 } : Room) s m args below meth c A H locs (F0 m 14 ls []) := by
    intro n14
    induction n14 with
    | zero => intro x3 σ H locs ls hS hl h; exact h.elim
    | succ n14 ih14 =>
      intro x3 σ H locs ls hS hl h
      replace h : wpS_X5_isWord_14_14 K (wlp (wpF_X5_isWord_14_14 K) n14) x3 σ := h
      unfold wpS_X5_isWord_14_14 at h
      refine lv_iload_n hx hb ddX5_isWord_14 rfl (lv_at hl 2 rfl) ?_
      refine lv_aload_n hx hb ddX5_isWord_15 rfl (lv_at hl 1 rfl) ?_
      refine k_RI (As := []) (rest := [.int x3]) (cS_length l X (i := 14) (by decide) (K := fun r s => r = (4 : Int32) ∧ s = σ) ⟨by decide, rfl⟩) mf_J0_length_8abf5 lk1497 hx hb hml hown ht hK hZ hS hA (vk_recv hZ.1 (by decide) hS.2.2) ⟨rfl, rfl⟩ ⟨Nat.le_of_ble_eq_true rfl, Nat.le_of_ble_eq_true rfl⟩ rfl hl.1 rfl (Nat.le_of_ble_eq_true rfl) ⟨Nat.le_of_ble_eq_true rfl, Nat.le_of_ble_eq_true rfl⟩ ddX5_isWord_16 (fun r9 s9 H locs hS h9 => ?_)
      rw [h9.2] at hS
      rw [h9.1]
      refine lv_icmp_ge (tgt := 42) hx hb ddX5_isWord_19 (by decide) (fun c2 => ?_) (fun c2 => ?_)
      · replace h := h.1 c2
        refine lv_iconst (v := (1 : Int32)) hx hb ddX5_isWord_42 (by decide) ?_
        exact k_zret hx hb hr hlocks hK hS rfl h ddX5_isWord_43
      · replace h := h.2 c2
        refine lv_aload_n hx hb ddX5_isWord_22 rfl (lv_at hl 0 rfl) ?_
        refine lv_aload_n hx hb ddX5_isWord_23 rfl (lv_at hl 1 rfl) ?_
        refine lv_iload_n hx hb ddX5_isWord_24 rfl (lv_at hl 2 rfl) ?_
        refine k_RI (As := [.int x3]) (rest := [.ref (ga X 25)]) (cS_charAt l X (i := 14) (by decide) (K := fun r s => r = sch 14 x3 ∧ s = σ) ⟨h.1, rfl, rfl⟩) mf_J0_charAt_5068e lk1498 hx hb hml hown ht hK hZ hS hA (vk_recv hZ.1 (by decide) hS.2.2) ⟨rfl, rfl⟩ ⟨Nat.le_of_ble_eq_true rfl, Nat.le_of_ble_eq_true rfl⟩ rfl hl.1 rfl (Nat.le_of_ble_eq_true rfl) ⟨Nat.le_of_ble_eq_true rfl, Nat.le_of_ble_eq_true rfl⟩ ddX5_isWord_25 (fun r9 s9 H locs hS h9 => ?_)
        replace h := h.2
        rw [h9.2] at hS
        rw [h9.1]
        refine k_VI (As := [.int (sch 14 x3)]) (rest := []) (c_X5_skips l X h) mf_X5_skips lk1480 hx hb hml hown ht hK hZ hS hA 25 5 rfl rfl rfl ⟨rfl, rfl⟩ ⟨Nat.le_of_ble_eq_true rfl, Nat.le_of_ble_eq_true rfl⟩ rfl hl.1 rfl (Nat.le_of_ble_eq_true rfl) ⟨Nat.le_of_ble_eq_true rfl, Nat.le_of_ble_eq_true rfl⟩ ddX5_isWord_28 (fun r4 σ3 H locs hS h => ?_)
        refine lv_if_ne (tgt := 36) hx hb ddX5_isWord_31 (by decide) (fun c5 => ?_) (fun c5 => ?_)
        · replace h := h.1 c5
          obtain ⟨v6, ev6⟩ : ∃ y : Int32, y = x3 + (1 : Int32) := ⟨_, rfl⟩
          replace h := h v6 ev6
          refine lv_iinc (v := v6) (lv' := [(3, .int v6), (0, .ref (ga X 25)), (2, .ref (gK X 14))]) hx hb ddX5_isWord_36 hl (k := 2) rfl (by rw [ev6]; rfl) (by decide) rfl (fun ls hl => ?_)
          refine lv_goto (tgt := 14) hx hb ddX5_isWord_39 (by decide) ?_
          exact ih14 _ _ _ _ _ hS (lv_sub hl [1, 2, 0] rfl) h
        · replace h := h.2 c5
          refine lv_iconst (v := (0 : Int32)) hx hb ddX5_isWord_34 (by decide) ?_
          exact k_zret hx hb hr hlocks hK hS rfl h ddX5_isWord_35
  unfold wp_X5_isWord_14 at h
  refine lv_aload_n hx hb ddX5_isWord_0 rfl (lv_at hl 0 rfl) ?_
  refine get_25_19 hx hb hown ht hK hS lk1143 ddX5_isWord_1 ?_
  refine lv_iconst (v := (4 : Int32)) hx hb ddX5_isWord_4 (by decide) ?_
  refine lv_aload_n hx hb ddX5_isWord_5 rfl (lv_at hl 0 rfl) ?_
  refine get_25_20 hx hb hown ht hK hS lk1144 ddX5_isWord_6 ?_
  refine lv_imul hx hb ddX5_isWord_9 ?_
  refine lv_iload_n hx hb ddX5_isWord_10 rfl (lv_at hl 1 rfl) ?_
  refine ast_33 hx hb hK hS h.1 ddX5_isWord_11 (fun H locs hS => ?_)
  replace h := h.2
  obtain ⟨σ1, eσ1⟩ : ∃ y : Mem, y = (st σ 33 ((4 : Int32) * (σ 25 20)).toNatClampNeg x1) := ⟨_, rfl⟩
  rw [← eσ1] at hS
  replace h := h σ1 eσ1
  refine lv_iconst (v := (0 : Int32)) hx hb ddX5_isWord_12 (by decide) ?_
  refine lv_istore_n (lv' := [(3, .int (0 : Int32)), (0, .ref (ga X 25)), (1, .int x1), (2, .ref (gK X 14))]) hx hb ddX5_isWord_13 rfl hl (by decide) rfl (fun ls hl => ?_)
  obtain ⟨n, h⟩ := h
  exact hL14 n _ _ _ _ _ hS (lv_sub hl [1, 3, 0] rfl) h

set_option maxHeartbeats 4000000 in
set_option maxRecDepth 100000 in
theorem c_X5_isWord_15 (l : Launch) (X : GX) {x1 : Int32} {σ : Mem} {K : Int32 → Mem → Prop} (h : wp_X5_isWord_15 x1 σ K) : MI l X yX5_isWord cX5_isWord 4 ((Option.some Jvm.ClassFile.FieldType.boolean)) ({ frames := 4, cells := 0, slots := 0, locals := 85 } : Room) [.ref (ga X 25), .int x1, .ref (gK X 15)] σ K := by
  refine ent_met (QQ := fun A => va_Qi K (BW X A) A) (by decide) (Nat.le_of_ble_eq_true rfl) ?_
  intro p e s m args below meth c A ls hx hb hr hlocks hml hown ht hK hZ hA hS hl
  have hown : s.vm.findClass "GuardRosterModel" = some m.cls := hown
  have hl : lv_has ls 4 [(0, .ref (ga X 25)), (1, .int x1), (2, .ref (gK X 15))] := hl
  have hL14 : ∀ (n : Nat) (x3 : Int32) (σ : Mem) (H : Heap) (locs : List Loc) (ls : Array Slot), WS X A s.heap σ H locs → lv_has ls 4 [(0, .ref (ga X 25)), (2, .ref (gK X 15)), (3, .int x3)] → wlp (wpF_X5_isWord_15_14 K) n (x3, σ) → WI X K p l e ({ frames := 4, cells := 0, slots := 0, locals := 85 } : Room) s m args below meth c A H locs (F0 m 14 ls []) := by
    intro n14
    induction n14 with
    | zero => intro x3 σ H locs ls hS hl h; exact h.elim
    | succ n14 ih14 =>
      intro x3 σ H locs ls hS hl h
      replace h : wpS_X5_isWord_15_14 K (wlp (wpF_X5_isWord_15_14 K) n14) x3 σ := h
      unfold wpS_X5_isWord_15_14 at h
      refine lv_iload_n hx hb ddX5_isWord_14 rfl (lv_at hl 2 rfl) ?_
      refine lv_aload_n hx hb ddX5_isWord_15 rfl (lv_at hl 1 rfl) ?_
      refine k_RI (As := []) (rest := [.int x3]) (cS_length l X (i := 15) (by decide) (K := fun r s => r = (3 : Int32) ∧ s = σ) ⟨by decide, rfl⟩) mf_J0_length_8abf5 lk1497 hx hb hml hown ht hK hZ hS hA (vk_recv hZ.1 (by decide) hS.2.2) ⟨rfl, rfl⟩ ⟨Nat.le_of_ble_eq_true rfl, Nat.le_of_ble_eq_true rfl⟩ rfl hl.1 rfl (Nat.le_of_ble_eq_true rfl) ⟨Nat.le_of_ble_eq_true rfl, Nat.le_of_ble_eq_true rfl⟩ ddX5_isWord_16 (fun r9 s9 H locs hS h9 => ?_)
      rw [h9.2] at hS
      rw [h9.1]
      refine lv_icmp_ge (tgt := 42) hx hb ddX5_isWord_19 (by decide) (fun c2 => ?_) (fun c2 => ?_)
      · replace h := h.1 c2
        refine lv_iconst (v := (1 : Int32)) hx hb ddX5_isWord_42 (by decide) ?_
        exact k_zret hx hb hr hlocks hK hS rfl h ddX5_isWord_43
      · replace h := h.2 c2
        refine lv_aload_n hx hb ddX5_isWord_22 rfl (lv_at hl 0 rfl) ?_
        refine lv_aload_n hx hb ddX5_isWord_23 rfl (lv_at hl 1 rfl) ?_
        refine lv_iload_n hx hb ddX5_isWord_24 rfl (lv_at hl 2 rfl) ?_
        refine k_RI (As := [.int x3]) (rest := [.ref (ga X 25)]) (cS_charAt l X (i := 15) (by decide) (K := fun r s => r = sch 15 x3 ∧ s = σ) ⟨h.1, rfl, rfl⟩) mf_J0_charAt_5068e lk1498 hx hb hml hown ht hK hZ hS hA (vk_recv hZ.1 (by decide) hS.2.2) ⟨rfl, rfl⟩ ⟨Nat.le_of_ble_eq_true rfl, Nat.le_of_ble_eq_true rfl⟩ rfl hl.1 rfl (Nat.le_of_ble_eq_true rfl) ⟨Nat.le_of_ble_eq_true rfl, Nat.le_of_ble_eq_true rfl⟩ ddX5_isWord_25 (fun r9 s9 H locs hS h9 => ?_)
        replace h := h.2
        rw [h9.2] at hS
        rw [h9.1]
        refine k_VI (As := [.int (sch 15 x3)]) (rest := []) (c_X5_skips l X h) mf_X5_skips lk1480 hx hb hml hown ht hK hZ hS hA 25 5 rfl rfl rfl ⟨rfl, rfl⟩ ⟨Nat.le_of_ble_eq_true rfl, Nat.le_of_ble_eq_true rfl⟩ rfl hl.1 rfl (Nat.le_of_ble_eq_true rfl) ⟨Nat.le_of_ble_eq_true rfl, Nat.le_of_ble_eq_true rfl⟩ ddX5_isWord_28 (fun r4 σ3 H locs hS h => ?_)
        refine lv_if_ne (tgt := 36) hx hb ddX5_isWord_31 (by decide) (fun c5 => ?_) (fun c5 => ?_)
        · replace h := h.1 c5
          obtain ⟨v6, ev6⟩ : ∃ y : Int32, y = x3 + (1 : Int32) := ⟨_, rfl⟩
          replace h := h v6 ev6
          refine lv_iinc (v := v6) (lv' := [(3, .int v6), (0, .ref (ga X 25)), (2, .ref (gK X 15))]) hx hb ddX5_isWord_36 hl (k := 2) rfl (by rw [ev6]; rfl) (by decide) rfl (fun ls hl => ?_)
          refine lv_goto (tgt := 14) hx hb ddX5_isWord_39 (by decide) ?_
          exact ih14 _ _ _ _ _ hS (lv_sub hl [1, 2, 0] rfl) h
        · replace h := h.2 c5
          refine lv_iconst (v := (0 : Int32)) hx hb ddX5_isWord_34 (by decide) ?_
          exact k_zret hx hb hr hlocks hK hS rfl h ddX5_isWord_35
  unfold wp_X5_isWord_15 at h
  refine lv_aload_n hx hb ddX5_isWord_0 rfl (lv_at hl 0 rfl) ?_
  refine get_25_19 hx hb hown ht hK hS lk1143 ddX5_isWord_1 ?_
  refine lv_iconst (v := (4 : Int32)) hx hb ddX5_isWord_4 (by decide) ?_
  refine lv_aload_n hx hb ddX5_isWord_5 rfl (lv_at hl 0 rfl) ?_
  refine get_25_20 hx hb hown ht hK hS lk1144 ddX5_isWord_6 ?_
  refine lv_imul hx hb ddX5_isWord_9 ?_
  refine lv_iload_n hx hb ddX5_isWord_10 rfl (lv_at hl 1 rfl) ?_
  refine ast_33 hx hb hK hS h.1 ddX5_isWord_11 (fun H locs hS => ?_)
  replace h := h.2
  obtain ⟨σ1, eσ1⟩ : ∃ y : Mem, y = (st σ 33 ((4 : Int32) * (σ 25 20)).toNatClampNeg x1) := ⟨_, rfl⟩
  rw [← eσ1] at hS
  replace h := h σ1 eσ1
  refine lv_iconst (v := (0 : Int32)) hx hb ddX5_isWord_12 (by decide) ?_
  refine lv_istore_n (lv' := [(3, .int (0 : Int32)), (0, .ref (ga X 25)), (1, .int x1), (2, .ref (gK X 15))]) hx hb ddX5_isWord_13 rfl hl (by decide) rfl (fun ls hl => ?_)
  obtain ⟨n, h⟩ := h
  exact hL14 n _ _ _ _ _ hS (lv_sub hl [1, 3, 0] rfl) h

set_option maxHeartbeats 4000000 in
set_option maxRecDepth 100000 in
theorem c_X5_withG (l : Launch) (X : GX) {x1 : Int32} {σ : Mem} {K : Int32 → Mem → Prop} (h : wp_X5_withG x1 σ K) : MI l X yX5_withG cX5_withG 2 ((Option.some Jvm.ClassFile.FieldType.boolean)) ({ frames := 5, cells := 0, slots := 0, locals := 108 } : Room) [.ref (ga X 25), .int x1] σ K := by
  refine ent_met (QQ := fun A => va_Qi K (BW X A) A) (by decide) (Nat.le_of_ble_eq_true rfl) ?_
  intro p e s m args below meth c A ls hx hb hr hlocks hml hown ht hK hZ hA hS hl
  have hown : s.vm.findClass "GuardRosterModel" = some m.cls := hown
  have hl : lv_has ls 2 [(0, .ref (ga X 25)), (1, .int x1)] := hl
  unfold wp_X5_withG at h
  refine lv_aload_n hx hb ddX5_withG_0 rfl (lv_at hl 0 rfl) ?_
  refine lv_bipush (v := (97 : Int32)) hx hb ddX5_withG_1 (by decide) ?_
  refine k_VI (As := [.int (97 : Int32)]) (rest := []) (c_X5_skips l X h) mf_X5_skips lk1480 hx hb hml hown ht hK hZ hS hA 25 5 rfl rfl rfl ⟨rfl, rfl⟩ ⟨Nat.le_of_ble_eq_true rfl, Nat.le_of_ble_eq_true rfl⟩ rfl hl.1 rfl (Nat.le_of_ble_eq_true rfl) ⟨Nat.le_of_ble_eq_true rfl, Nat.le_of_ble_eq_true rfl⟩ ddX5_withG_3 (fun r2 σ1 H locs hS h => ?_)
  refine lv_if_eq (tgt := 36) hx hb ddX5_withG_6 (by decide) (fun c3 => ?_) (fun c3 => ?_)
  · replace h := h.1 c3
    refine lv_aload_n hx hb ddX5_withG_36 rfl (lv_at hl 0 rfl) ?_
    refine lv_bipush (v := (117 : Int32)) hx hb ddX5_withG_37 (by decide) ?_
    refine k_VI (As := [.int (117 : Int32)]) (rest := []) (c_X5_skips l X h) mf_X5_skips lk1480 hx hb hml hown ht hK hZ hS hA 25 5 rfl rfl rfl ⟨rfl, rfl⟩ ⟨Nat.le_of_ble_eq_true rfl, Nat.le_of_ble_eq_true rfl⟩ rfl hl.1 rfl (Nat.le_of_ble_eq_true rfl) ⟨Nat.le_of_ble_eq_true rfl, Nat.le_of_ble_eq_true rfl⟩ ddX5_withG_39 (fun r5 σ4 H locs hS h => ?_)
    refine lv_if_eq (tgt := 70) hx hb ddX5_withG_42 (by decide) (fun c6 => ?_) (fun c6 => ?_)
    · replace h := h.1 c6
      refine lv_iconst (v := (0 : Int32)) hx hb ddX5_withG_70 (by decide) ?_
      exact k_zret hx hb hr hlocks hK hS rfl h ddX5_withG_71
    · replace h := h.2 c6
      refine lv_aload_n hx hb ddX5_withG_45 rfl (lv_at hl 0 rfl) ?_
      refine lv_iconst (v := (1 : Int32)) hx hb ddX5_withG_46 (by decide) ?_
      refine va_ldcS hx hb hown (hZ.2.1 9 _ rfl) ddX5_withG_47 ?_
      refine k_VI (As := [.int (1 : Int32), .ref (gK X 9)]) (rest := []) (c_X5_isWord_9 l X h) mf_X5_isWord lk1493 hx hb hml hown ht hK hZ hS hA 25 5 rfl rfl rfl ⟨rfl, rfl⟩ ⟨Nat.le_of_ble_eq_true rfl, Nat.le_of_ble_eq_true rfl⟩ rfl hl.1 rfl (Nat.le_of_ble_eq_true rfl) ⟨Nat.le_of_ble_eq_true rfl, Nat.le_of_ble_eq_true rfl⟩ ddX5_withG_49 (fun r8 σ7 H locs hS h => ?_)
      refine lv_if_eq (tgt := 70) hx hb ddX5_withG_52 (by decide) (fun c9 => ?_) (fun c9 => ?_)
      · replace h := h.1 c9
        refine lv_iconst (v := (0 : Int32)) hx hb ddX5_withG_70 (by decide) ?_
        exact k_zret hx hb hr hlocks hK hS rfl h ddX5_withG_71
      · replace h := h.2 c9
        refine lv_aload_n hx hb ddX5_withG_55 rfl (lv_at hl 0 rfl) ?_
        refine lv_bipush (v := (32 : Int32)) hx hb ddX5_withG_56 (by decide) ?_
        refine lv_iload_n hx hb ddX5_withG_58 rfl (lv_at hl 1 rfl) ?_
        refine lv_iconst (v := (1 : Int32)) hx hb ddX5_withG_59 (by decide) ?_
        refine k_VI (As := [.int (32 : Int32), .int x1, .int (1 : Int32)]) (rest := []) (c_X5_figures l X h) mf_X5_figures lk1499 hx hb hml hown ht hK hZ hS hA 25 5 rfl rfl rfl ⟨rfl, rfl⟩ ⟨Nat.le_of_ble_eq_true rfl, Nat.le_of_ble_eq_true rfl⟩ rfl hl.1 rfl (Nat.le_of_ble_eq_true rfl) ⟨Nat.le_of_ble_eq_true rfl, Nat.le_of_ble_eq_true rfl⟩ ddX5_withG_60 (fun r11 σ10 H locs hS h => ?_)
        refine lv_if_eq (tgt := 70) hx hb ddX5_withG_63 (by decide) (fun c12 => ?_) (fun c12 => ?_)
        · replace h := h.1 c12
          refine lv_iconst (v := (0 : Int32)) hx hb ddX5_withG_70 (by decide) ?_
          exact k_zret hx hb hr hlocks hK hS rfl h ddX5_withG_71
        · replace h := h.2 c12
          refine lv_iconst (v := (1 : Int32)) hx hb ddX5_withG_66 (by decide) ?_
          refine lv_goto (tgt := 71) hx hb ddX5_withG_67 (by decide) ?_
          exact k_zret hx hb hr hlocks hK hS rfl h ddX5_withG_71
  · replace h := h.2 c3
    refine lv_aload_n hx hb ddX5_withG_9 rfl (lv_at hl 0 rfl) ?_
    refine lv_iconst (v := (0 : Int32)) hx hb ddX5_withG_10 (by decide) ?_
    refine va_ldcS hx hb hown (hZ.2.1 8 _ rfl) ddX5_withG_11 ?_
    refine k_VI (As := [.int (0 : Int32), .ref (gK X 8)]) (rest := []) (c_X5_isWord_8 l X h) mf_X5_isWord lk1493 hx hb hml hown ht hK hZ hS hA 25 5 rfl rfl rfl ⟨rfl, rfl⟩ ⟨Nat.le_of_ble_eq_true rfl, Nat.le_of_ble_eq_true rfl⟩ rfl hl.1 rfl (Nat.le_of_ble_eq_true rfl) ⟨Nat.le_of_ble_eq_true rfl, Nat.le_of_ble_eq_true rfl⟩ ddX5_withG_13 (fun r14 σ13 H locs hS h => ?_)
    refine lv_if_eq (tgt := 34) hx hb ddX5_withG_16 (by decide) (fun c15 => ?_) (fun c15 => ?_)
    · replace h := h.1 c15
      refine lv_iconst (v := (0 : Int32)) hx hb ddX5_withG_34 (by decide) ?_
      exact k_zret hx hb hr hlocks hK hS rfl h ddX5_withG_35
    · replace h := h.2 c15
      refine lv_aload_n hx hb ddX5_withG_19 rfl (lv_at hl 0 rfl) ?_
      refine lv_bipush (v := (32 : Int32)) hx hb ddX5_withG_20 (by decide) ?_
      refine lv_iload_n hx hb ddX5_withG_22 rfl (lv_at hl 1 rfl) ?_
      refine lv_iconst (v := (1 : Int32)) hx hb ddX5_withG_23 (by decide) ?_
      refine k_VI (As := [.int (32 : Int32), .int x1, .int (1 : Int32)]) (rest := []) (c_X5_figures l X h) mf_X5_figures lk1499 hx hb hml hown ht hK hZ hS hA 25 5 rfl rfl rfl ⟨rfl, rfl⟩ ⟨Nat.le_of_ble_eq_true rfl, Nat.le_of_ble_eq_true rfl⟩ rfl hl.1 rfl (Nat.le_of_ble_eq_true rfl) ⟨Nat.le_of_ble_eq_true rfl, Nat.le_of_ble_eq_true rfl⟩ ddX5_withG_24 (fun r17 σ16 H locs hS h => ?_)
      refine lv_if_eq (tgt := 34) hx hb ddX5_withG_27 (by decide) (fun c18 => ?_) (fun c18 => ?_)
      · replace h := h.1 c18
        refine lv_iconst (v := (0 : Int32)) hx hb ddX5_withG_34 (by decide) ?_
        exact k_zret hx hb hr hlocks hK hS rfl h ddX5_withG_35
      · replace h := h.2 c18
        refine lv_iconst (v := (1 : Int32)) hx hb ddX5_withG_30 (by decide) ?_
        refine lv_goto (tgt := 35) hx hb ddX5_withG_31 (by decide) ?_
        exact k_zret hx hb hr hlocks hK hS rfl h ddX5_withG_35

set_option maxHeartbeats 4000000 in
set_option maxRecDepth 100000 in
theorem c_X5_withF (l : Launch) (X : GX) {x1 : Int32} {σ : Mem} {K : Int32 → Mem → Prop} (h : wp_X5_withF x1 σ K) : MI l X yX5_withF cX5_withF 2 ((Option.some Jvm.ClassFile.FieldType.boolean)) ({ frames := 5, cells := 0, slots := 0, locals := 108 } : Room) [.ref (ga X 25), .int x1] σ K := by
  refine ent_met (QQ := fun A => va_Qi K (BW X A) A) (by decide) (Nat.le_of_ble_eq_true rfl) ?_
  intro p e s m args below meth c A ls hx hb hr hlocks hml hown ht hK hZ hA hS hl
  have hown : s.vm.findClass "GuardRosterModel" = some m.cls := hown
  have hl : lv_has ls 2 [(0, .ref (ga X 25)), (1, .int x1)] := hl
  unfold wp_X5_withF at h
  refine lv_aload_n hx hb ddX5_withF_0 rfl (lv_at hl 0 rfl) ?_
  refine lv_bipush (v := (114 : Int32)) hx hb ddX5_withF_1 (by decide) ?_
  refine k_VI (As := [.int (114 : Int32)]) (rest := []) (c_X5_skips l X h) mf_X5_skips lk1480 hx hb hml hown ht hK hZ hS hA 25 5 rfl rfl rfl ⟨rfl, rfl⟩ ⟨Nat.le_of_ble_eq_true rfl, Nat.le_of_ble_eq_true rfl⟩ rfl hl.1 rfl (Nat.le_of_ble_eq_true rfl) ⟨Nat.le_of_ble_eq_true rfl, Nat.le_of_ble_eq_true rfl⟩ ddX5_withF_3 (fun r2 σ1 H locs hS h => ?_)
  refine lv_if_eq (tgt := 49) hx hb ddX5_withF_6 (by decide) (fun c3 => ?_) (fun c3 => ?_)
  · replace h := h.1 c3
    refine lv_aload_n hx hb ddX5_withF_49 rfl (lv_at hl 0 rfl) ?_
    refine lv_bipush (v := (105 : Int32)) hx hb ddX5_withF_50 (by decide) ?_
    refine k_VI (As := [.int (105 : Int32)]) (rest := []) (c_X5_skips l X h) mf_X5_skips lk1480 hx hb hml hown ht hK hZ hS hA 25 5 rfl rfl rfl ⟨rfl, rfl⟩ ⟨Nat.le_of_ble_eq_true rfl, Nat.le_of_ble_eq_true rfl⟩ rfl hl.1 rfl (Nat.le_of_ble_eq_true rfl) ⟨Nat.le_of_ble_eq_true rfl, Nat.le_of_ble_eq_true rfl⟩ ddX5_withF_52 (fun r5 σ4 H locs hS h => ?_)
    refine lv_if_eq (tgt := 85) hx hb ddX5_withF_55 (by decide) (fun c6 => ?_) (fun c6 => ?_)
    · replace h := h.1 c6
      refine lv_aload_n hx hb ddX5_withF_85 rfl (lv_at hl 0 rfl) ?_
      refine lv_bipush (v := (111 : Int32)) hx hb ddX5_withF_86 (by decide) ?_
      refine k_VI (As := [.int (111 : Int32)]) (rest := []) (c_X5_skips l X h) mf_X5_skips lk1480 hx hb hml hown ht hK hZ hS hA 25 5 rfl rfl rfl ⟨rfl, rfl⟩ ⟨Nat.le_of_ble_eq_true rfl, Nat.le_of_ble_eq_true rfl⟩ rfl hl.1 rfl (Nat.le_of_ble_eq_true rfl) ⟨Nat.le_of_ble_eq_true rfl, Nat.le_of_ble_eq_true rfl⟩ ddX5_withF_88 (fun r8 σ7 H locs hS h => ?_)
      refine lv_if_eq (tgt := 120) hx hb ddX5_withF_91 (by decide) (fun c9 => ?_) (fun c9 => ?_)
      · replace h := h.1 c9
        refine lv_iconst (v := (0 : Int32)) hx hb ddX5_withF_120 (by decide) ?_
        exact k_zret hx hb hr hlocks hK hS rfl h ddX5_withF_121
      · replace h := h.2 c9
        refine lv_aload_n hx hb ddX5_withF_94 rfl (lv_at hl 0 rfl) ?_
        refine lv_bipush (v := (6 : Int32)) hx hb ddX5_withF_95 (by decide) ?_
        refine va_ldcS hx hb hown (hZ.2.1 12 _ rfl) ddX5_withF_97 ?_
        refine k_VI (As := [.int (6 : Int32), .ref (gK X 12)]) (rest := []) (c_X5_isWord_12 l X h) mf_X5_isWord lk1493 hx hb hml hown ht hK hZ hS hA 25 5 rfl rfl rfl ⟨rfl, rfl⟩ ⟨Nat.le_of_ble_eq_true rfl, Nat.le_of_ble_eq_true rfl⟩ rfl hl.1 rfl (Nat.le_of_ble_eq_true rfl) ⟨Nat.le_of_ble_eq_true rfl, Nat.le_of_ble_eq_true rfl⟩ ddX5_withF_99 (fun r11 σ10 H locs hS h => ?_)
        refine lv_if_eq (tgt := 120) hx hb ddX5_withF_102 (by decide) (fun c12 => ?_) (fun c12 => ?_)
        · replace h := h.1 c12
          refine lv_iconst (v := (0 : Int32)) hx hb ddX5_withF_120 (by decide) ?_
          exact k_zret hx hb hr hlocks hK hS rfl h ddX5_withF_121
        · replace h := h.2 c12
          refine lv_aload_n hx hb ddX5_withF_105 rfl (lv_at hl 0 rfl) ?_
          refine lv_bipush (v := (32 : Int32)) hx hb ddX5_withF_106 (by decide) ?_
          refine lv_iload_n hx hb ddX5_withF_108 rfl (lv_at hl 1 rfl) ?_
          refine lv_iconst (v := (2 : Int32)) hx hb ddX5_withF_109 (by decide) ?_
          refine k_VI (As := [.int (32 : Int32), .int x1, .int (2 : Int32)]) (rest := []) (c_X5_figures l X h) mf_X5_figures lk1499 hx hb hml hown ht hK hZ hS hA 25 5 rfl rfl rfl ⟨rfl, rfl⟩ ⟨Nat.le_of_ble_eq_true rfl, Nat.le_of_ble_eq_true rfl⟩ rfl hl.1 rfl (Nat.le_of_ble_eq_true rfl) ⟨Nat.le_of_ble_eq_true rfl, Nat.le_of_ble_eq_true rfl⟩ ddX5_withF_110 (fun r14 σ13 H locs hS h => ?_)
          refine lv_if_eq (tgt := 120) hx hb ddX5_withF_113 (by decide) (fun c15 => ?_) (fun c15 => ?_)
          · replace h := h.1 c15
            refine lv_iconst (v := (0 : Int32)) hx hb ddX5_withF_120 (by decide) ?_
            exact k_zret hx hb hr hlocks hK hS rfl h ddX5_withF_121
          · replace h := h.2 c15
            refine lv_iconst (v := (1 : Int32)) hx hb ddX5_withF_116 (by decide) ?_
            refine lv_goto (tgt := 121) hx hb ddX5_withF_117 (by decide) ?_
            exact k_zret hx hb hr hlocks hK hS rfl h ddX5_withF_121
    · replace h := h.2 c6
      refine lv_aload_n hx hb ddX5_withF_58 rfl (lv_at hl 0 rfl) ?_
      refine lv_iconst (v := (5 : Int32)) hx hb ddX5_withF_59 (by decide) ?_
      refine va_ldcS hx hb hown (hZ.2.1 11 _ rfl) ddX5_withF_60 ?_
      refine k_VI (As := [.int (5 : Int32), .ref (gK X 11)]) (rest := []) (c_X5_isWord_11 l X h) mf_X5_isWord lk1493 hx hb hml hown ht hK hZ hS hA 25 5 rfl rfl rfl ⟨rfl, rfl⟩ ⟨Nat.le_of_ble_eq_true rfl, Nat.le_of_ble_eq_true rfl⟩ rfl hl.1 rfl (Nat.le_of_ble_eq_true rfl) ⟨Nat.le_of_ble_eq_true rfl, Nat.le_of_ble_eq_true rfl⟩ ddX5_withF_62 (fun r17 σ16 H locs hS h => ?_)
      refine lv_if_eq (tgt := 83) hx hb ddX5_withF_65 (by decide) (fun c18 => ?_) (fun c18 => ?_)
      · replace h := h.1 c18
        refine lv_iconst (v := (0 : Int32)) hx hb ddX5_withF_83 (by decide) ?_
        exact k_zret hx hb hr hlocks hK hS rfl h ddX5_withF_84
      · replace h := h.2 c18
        refine lv_aload_n hx hb ddX5_withF_68 rfl (lv_at hl 0 rfl) ?_
        refine lv_bipush (v := (32 : Int32)) hx hb ddX5_withF_69 (by decide) ?_
        refine lv_iload_n hx hb ddX5_withF_71 rfl (lv_at hl 1 rfl) ?_
        refine lv_iconst (v := (2 : Int32)) hx hb ddX5_withF_72 (by decide) ?_
        refine k_VI (As := [.int (32 : Int32), .int x1, .int (2 : Int32)]) (rest := []) (c_X5_figures l X h) mf_X5_figures lk1499 hx hb hml hown ht hK hZ hS hA 25 5 rfl rfl rfl ⟨rfl, rfl⟩ ⟨Nat.le_of_ble_eq_true rfl, Nat.le_of_ble_eq_true rfl⟩ rfl hl.1 rfl (Nat.le_of_ble_eq_true rfl) ⟨Nat.le_of_ble_eq_true rfl, Nat.le_of_ble_eq_true rfl⟩ ddX5_withF_73 (fun r20 σ19 H locs hS h => ?_)
        refine lv_if_eq (tgt := 83) hx hb ddX5_withF_76 (by decide) (fun c21 => ?_) (fun c21 => ?_)
        · replace h := h.1 c21
          refine lv_iconst (v := (0 : Int32)) hx hb ddX5_withF_83 (by decide) ?_
          exact k_zret hx hb hr hlocks hK hS rfl h ddX5_withF_84
        · replace h := h.2 c21
          refine lv_iconst (v := (1 : Int32)) hx hb ddX5_withF_79 (by decide) ?_
          refine lv_goto (tgt := 84) hx hb ddX5_withF_80 (by decide) ?_
          exact k_zret hx hb hr hlocks hK hS rfl h ddX5_withF_84
  · replace h := h.2 c3
    refine lv_aload_n hx hb ddX5_withF_9 rfl (lv_at hl 0 rfl) ?_
    refine lv_iconst (v := (3 : Int32)) hx hb ddX5_withF_10 (by decide) ?_
    refine va_ldcS hx hb hown (hZ.2.1 10 _ rfl) ddX5_withF_11 ?_
    refine k_VI (As := [.int (3 : Int32), .ref (gK X 10)]) (rest := []) (c_X5_isWord_10 l X h) mf_X5_isWord lk1493 hx hb hml hown ht hK hZ hS hA 25 5 rfl rfl rfl ⟨rfl, rfl⟩ ⟨Nat.le_of_ble_eq_true rfl, Nat.le_of_ble_eq_true rfl⟩ rfl hl.1 rfl (Nat.le_of_ble_eq_true rfl) ⟨Nat.le_of_ble_eq_true rfl, Nat.le_of_ble_eq_true rfl⟩ ddX5_withF_13 (fun r23 σ22 H locs hS h => ?_)
    refine lv_if_eq (tgt := 47) hx hb ddX5_withF_16 (by decide) (fun c24 => ?_) (fun c24 => ?_)
    · replace h := h.1 c24
      refine lv_iconst (v := (0 : Int32)) hx hb ddX5_withF_47 (by decide) ?_
      exact k_zret hx hb hr hlocks hK hS rfl h ddX5_withF_48
    · replace h := h.2 c24
      refine lv_aload_n hx hb ddX5_withF_19 rfl (lv_at hl 0 rfl) ?_
      refine lv_bipush (v := (32 : Int32)) hx hb ddX5_withF_20 (by decide) ?_
      refine lv_iload_n hx hb ddX5_withF_22 rfl (lv_at hl 1 rfl) ?_
      refine lv_iconst (v := (1 : Int32)) hx hb ddX5_withF_23 (by decide) ?_
      refine k_VI (As := [.int (32 : Int32), .int x1, .int (1 : Int32)]) (rest := []) (c_X5_figures l X h) mf_X5_figures lk1499 hx hb hml hown ht hK hZ hS hA 25 5 rfl rfl rfl ⟨rfl, rfl⟩ ⟨Nat.le_of_ble_eq_true rfl, Nat.le_of_ble_eq_true rfl⟩ rfl hl.1 rfl (Nat.le_of_ble_eq_true rfl) ⟨Nat.le_of_ble_eq_true rfl, Nat.le_of_ble_eq_true rfl⟩ ddX5_withF_24 (fun r26 σ25 H locs hS h => ?_)
      refine lv_if_eq (tgt := 47) hx hb ddX5_withF_27 (by decide) (fun c27 => ?_) (fun c27 => ?_)
      · replace h := h.1 c27
        refine lv_iconst (v := (0 : Int32)) hx hb ddX5_withF_47 (by decide) ?_
        exact k_zret hx hb hr hlocks hK hS rfl h ddX5_withF_48
      · replace h := h.2 c27
        refine lv_aload_n hx hb ddX5_withF_30 rfl (lv_at hl 0 rfl) ?_
        refine lv_bipush (v := (64 : Int32)) hx hb ddX5_withF_31 (by decide) ?_
        refine lv_iload_n hx hb ddX5_withF_33 rfl (lv_at hl 1 rfl) ?_
        refine lv_iconst (v := (1 : Int32)) hx hb ddX5_withF_34 (by decide) ?_
        refine lv_iadd hx hb ddX5_withF_35 ?_
        refine lv_iconst (v := (2 : Int32)) hx hb ddX5_withF_36 (by decide) ?_
        refine k_VI (As := [.int (64 : Int32), .int (x1 + (1 : Int32)), .int (2 : Int32)]) (rest := []) (c_X5_figures l X h) mf_X5_figures lk1499 hx hb hml hown ht hK hZ hS hA 25 5 rfl rfl rfl ⟨rfl, rfl⟩ ⟨Nat.le_of_ble_eq_true rfl, Nat.le_of_ble_eq_true rfl⟩ rfl hl.1 rfl (Nat.le_of_ble_eq_true rfl) ⟨Nat.le_of_ble_eq_true rfl, Nat.le_of_ble_eq_true rfl⟩ ddX5_withF_37 (fun r29 σ28 H locs hS h => ?_)
        refine lv_if_eq (tgt := 47) hx hb ddX5_withF_40 (by decide) (fun c30 => ?_) (fun c30 => ?_)
        · replace h := h.1 c30
          refine lv_iconst (v := (0 : Int32)) hx hb ddX5_withF_47 (by decide) ?_
          exact k_zret hx hb hr hlocks hK hS rfl h ddX5_withF_48
        · replace h := h.2 c30
          refine lv_iconst (v := (1 : Int32)) hx hb ddX5_withF_43 (by decide) ?_
          refine lv_goto (tgt := 48) hx hb ddX5_withF_44 (by decide) ?_
          exact k_zret hx hb hr hlocks hK hS rfl h ddX5_withF_48

set_option maxHeartbeats 4000000 in
set_option maxRecDepth 100000 in
theorem c_X5_commandHere (l : Launch) (X : GX) {σ : Mem} {K : Int32 → Mem → Prop} (h : wp_X5_commandHere σ K) : MI l X yX5_commandHere cX5_commandHere 2 ((Option.some Jvm.ClassFile.FieldType.boolean)) ({ frames := 6, cells := 0, slots := 0, locals := 129 } : Room) [.ref (ga X 25)] σ K := by
  refine ent_met (QQ := fun A => va_Qi K (BW X A) A) (by decide) (Nat.le_of_ble_eq_true rfl) ?_
  intro p e s m args below meth c A ls hx hb hr hlocks hml hown ht hK hZ hA hS hl
  have hown : s.vm.findClass "GuardRosterModel" = some m.cls := hown
  have hl : lv_has ls 2 [(0, .ref (ga X 25))] := hl
  unfold wp_X5_commandHere at h
  refine lv_iconst (v := (4 : Int32)) hx hb ddX5_commandHere_0 (by decide) ?_
  refine lv_aload_n hx hb ddX5_commandHere_1 rfl (lv_at hl 0 rfl) ?_
  refine get_25_20 hx hb hown ht hK hS lk1144 ddX5_commandHere_2 ?_
  refine lv_imul hx hb ddX5_commandHere_5 ?_
  refine lv_iconst (v := (1 : Int32)) hx hb ddX5_commandHere_6 (by decide) ?_
  refine lv_iadd hx hb ddX5_commandHere_7 ?_
  refine lv_topi (fun v1 ev1 => ?_)
  replace h := h v1 ev1
  refine lv_istore_n (lv' := [(1, .int v1), (0, .ref (ga X 25))]) hx hb ddX5_commandHere_8 rfl hl (by decide) rfl (fun ls hl => ?_)
  refine lv_aload_n hx hb ddX5_commandHere_9 rfl (lv_at hl 1 rfl) ?_
  refine lv_bipush (v := (103 : Int32)) hx hb ddX5_commandHere_10 (by decide) ?_
  refine k_VI (As := [.int (103 : Int32)]) (rest := []) (c_X5_skips l X h) mf_X5_skips lk1480 hx hb hml hown ht hK hZ hS hA 25 5 rfl rfl rfl ⟨rfl, rfl⟩ ⟨Nat.le_of_ble_eq_true rfl, Nat.le_of_ble_eq_true rfl⟩ rfl hl.1 rfl (Nat.le_of_ble_eq_true rfl) ⟨Nat.le_of_ble_eq_true rfl, Nat.le_of_ble_eq_true rfl⟩ ddX5_commandHere_12 (fun r3 σ2 H locs hS h => ?_)
  refine lv_if_eq (tgt := 24) hx hb ddX5_commandHere_15 (by decide) (fun c4 => ?_) (fun c4 => ?_)
  · replace h := h.1 c4
    refine lv_aload_n hx hb ddX5_commandHere_24 rfl (lv_at hl 1 rfl) ?_
    refine lv_bipush (v := (102 : Int32)) hx hb ddX5_commandHere_25 (by decide) ?_
    refine k_VI (As := [.int (102 : Int32)]) (rest := []) (c_X5_skips l X h) mf_X5_skips lk1480 hx hb hml hown ht hK hZ hS hA 25 5 rfl rfl rfl ⟨rfl, rfl⟩ ⟨Nat.le_of_ble_eq_true rfl, Nat.le_of_ble_eq_true rfl⟩ rfl hl.1 rfl (Nat.le_of_ble_eq_true rfl) ⟨Nat.le_of_ble_eq_true rfl, Nat.le_of_ble_eq_true rfl⟩ ddX5_commandHere_27 (fun r6 σ5 H locs hS h => ?_)
    refine lv_if_eq (tgt := 39) hx hb ddX5_commandHere_30 (by decide) (fun c7 => ?_) (fun c7 => ?_)
    · replace h := h.1 c7
      refine lv_aload_n hx hb ddX5_commandHere_39 rfl (lv_at hl 1 rfl) ?_
      refine lv_bipush (v := (100 : Int32)) hx hb ddX5_commandHere_40 (by decide) ?_
      refine k_VI (As := [.int (100 : Int32)]) (rest := []) (c_X5_skips l X h) mf_X5_skips lk1480 hx hb hml hown ht hK hZ hS hA 25 5 rfl rfl rfl ⟨rfl, rfl⟩ ⟨Nat.le_of_ble_eq_true rfl, Nat.le_of_ble_eq_true rfl⟩ rfl hl.1 rfl (Nat.le_of_ble_eq_true rfl) ⟨Nat.le_of_ble_eq_true rfl, Nat.le_of_ble_eq_true rfl⟩ ddX5_commandHere_42 (fun r9 σ8 H locs hS h => ?_)
      refine lv_if_eq (tgt := 101) hx hb ddX5_commandHere_45 (by decide) (fun c10 => ?_) (fun c10 => ?_)
      · replace h := h.1 c10
        refine lv_aload_n hx hb ddX5_commandHere_101 rfl (lv_at hl 1 rfl) ?_
        refine lv_bipush (v := (108 : Int32)) hx hb ddX5_commandHere_102 (by decide) ?_
        refine k_VI (As := [.int (108 : Int32)]) (rest := []) (c_X5_skips l X h) mf_X5_skips lk1480 hx hb hml hown ht hK hZ hS hA 25 5 rfl rfl rfl ⟨rfl, rfl⟩ ⟨Nat.le_of_ble_eq_true rfl, Nat.le_of_ble_eq_true rfl⟩ rfl hl.1 rfl (Nat.le_of_ble_eq_true rfl) ⟨Nat.le_of_ble_eq_true rfl, Nat.le_of_ble_eq_true rfl⟩ ddX5_commandHere_104 (fun r12 σ11 H locs hS h => ?_)
        refine lv_if_eq (tgt := 163) hx hb ddX5_commandHere_107 (by decide) (fun c13 => ?_) (fun c13 => ?_)
        · replace h := h.1 c13
          refine lv_aload_n hx hb ddX5_commandHere_163 rfl (lv_at hl 1 rfl) ?_
          refine lv_bipush (v := (112 : Int32)) hx hb ddX5_commandHere_164 (by decide) ?_
          refine k_VI (As := [.int (112 : Int32)]) (rest := []) (c_X5_skips l X h) mf_X5_skips lk1480 hx hb hml hown ht hK hZ hS hA 25 5 rfl rfl rfl ⟨rfl, rfl⟩ ⟨Nat.le_of_ble_eq_true rfl, Nat.le_of_ble_eq_true rfl⟩ rfl hl.1 rfl (Nat.le_of_ble_eq_true rfl) ⟨Nat.le_of_ble_eq_true rfl, Nat.le_of_ble_eq_true rfl⟩ ddX5_commandHere_166 (fun r15 σ14 H locs hS h => ?_)
          refine lv_if_eq (tgt := 198) hx hb ddX5_commandHere_169 (by decide) (fun c16 => ?_) (fun c16 => ?_)
          · replace h := h.1 c16
            refine lv_iconst (v := (0 : Int32)) hx hb ddX5_commandHere_198 (by decide) ?_
            exact k_zret hx hb hr hlocks hK hS rfl h ddX5_commandHere_199
          · replace h := h.2 c16
            refine lv_aload_n hx hb ddX5_commandHere_172 rfl (lv_at hl 1 rfl) ?_
            refine lv_bipush (v := (7 : Int32)) hx hb ddX5_commandHere_173 (by decide) ?_
            refine va_ldcS hx hb hown (hZ.2.1 15 _ rfl) ddX5_commandHere_175 ?_
            refine k_VI (As := [.int (7 : Int32), .ref (gK X 15)]) (rest := []) (c_X5_isWord_15 l X h) mf_X5_isWord lk1493 hx hb hml hown ht hK hZ hS hA 25 5 rfl rfl rfl ⟨rfl, rfl⟩ ⟨Nat.le_of_ble_eq_true rfl, Nat.le_of_ble_eq_true rfl⟩ rfl hl.1 rfl (Nat.le_of_ble_eq_true rfl) ⟨Nat.le_of_ble_eq_true rfl, Nat.le_of_ble_eq_true rfl⟩ ddX5_commandHere_177 (fun r18 σ17 H locs hS h => ?_)
            refine lv_if_eq (tgt := 198) hx hb ddX5_commandHere_180 (by decide) (fun c19 => ?_) (fun c19 => ?_)
            · replace h := h.1 c19
              refine lv_iconst (v := (0 : Int32)) hx hb ddX5_commandHere_198 (by decide) ?_
              exact k_zret hx hb hr hlocks hK hS rfl h ddX5_commandHere_199
            · replace h := h.2 c19
              refine lv_aload_n hx hb ddX5_commandHere_183 rfl (lv_at hl 1 rfl) ?_
              refine lv_bipush (v := (32 : Int32)) hx hb ddX5_commandHere_184 (by decide) ?_
              refine lv_iload_n hx hb ddX5_commandHere_186 rfl (lv_at hl 0 rfl) ?_
              refine lv_iconst (v := (2 : Int32)) hx hb ddX5_commandHere_187 (by decide) ?_
              refine k_VI (As := [.int (32 : Int32), .int v1, .int (2 : Int32)]) (rest := []) (c_X5_figures l X h) mf_X5_figures lk1499 hx hb hml hown ht hK hZ hS hA 25 5 rfl rfl rfl ⟨rfl, rfl⟩ ⟨Nat.le_of_ble_eq_true rfl, Nat.le_of_ble_eq_true rfl⟩ rfl hl.1 rfl (Nat.le_of_ble_eq_true rfl) ⟨Nat.le_of_ble_eq_true rfl, Nat.le_of_ble_eq_true rfl⟩ ddX5_commandHere_188 (fun r21 σ20 H locs hS h => ?_)
              refine lv_if_eq (tgt := 198) hx hb ddX5_commandHere_191 (by decide) (fun c22 => ?_) (fun c22 => ?_)
              · replace h := h.1 c22
                refine lv_iconst (v := (0 : Int32)) hx hb ddX5_commandHere_198 (by decide) ?_
                exact k_zret hx hb hr hlocks hK hS rfl h ddX5_commandHere_199
              · replace h := h.2 c22
                refine lv_iconst (v := (1 : Int32)) hx hb ddX5_commandHere_194 (by decide) ?_
                refine lv_goto (tgt := 199) hx hb ddX5_commandHere_195 (by decide) ?_
                exact k_zret hx hb hr hlocks hK hS rfl h ddX5_commandHere_199
        · replace h := h.2 c13
          refine lv_aload_n hx hb ddX5_commandHere_110 rfl (lv_at hl 1 rfl) ?_
          refine lv_iconst (v := (4 : Int32)) hx hb ddX5_commandHere_111 (by decide) ?_
          refine va_ldcS hx hb hown (hZ.2.1 14 _ rfl) ddX5_commandHere_112 ?_
          refine k_VI (As := [.int (4 : Int32), .ref (gK X 14)]) (rest := []) (c_X5_isWord_14 l X h) mf_X5_isWord lk1493 hx hb hml hown ht hK hZ hS hA 25 5 rfl rfl rfl ⟨rfl, rfl⟩ ⟨Nat.le_of_ble_eq_true rfl, Nat.le_of_ble_eq_true rfl⟩ rfl hl.1 rfl (Nat.le_of_ble_eq_true rfl) ⟨Nat.le_of_ble_eq_true rfl, Nat.le_of_ble_eq_true rfl⟩ ddX5_commandHere_114 (fun r24 σ23 H locs hS h => ?_)
          refine lv_if_eq (tgt := 161) hx hb ddX5_commandHere_117 (by decide) (fun c25 => ?_) (fun c25 => ?_)
          · replace h := h.1 c25
            refine lv_iconst (v := (0 : Int32)) hx hb ddX5_commandHere_161 (by decide) ?_
            exact k_zret hx hb hr hlocks hK hS rfl h ddX5_commandHere_162
          · replace h := h.2 c25
            refine lv_aload_n hx hb ddX5_commandHere_120 rfl (lv_at hl 1 rfl) ?_
            refine lv_bipush (v := (32 : Int32)) hx hb ddX5_commandHere_121 (by decide) ?_
            refine lv_iload_n hx hb ddX5_commandHere_123 rfl (lv_at hl 0 rfl) ?_
            refine lv_iconst (v := (1 : Int32)) hx hb ddX5_commandHere_124 (by decide) ?_
            refine k_VI (As := [.int (32 : Int32), .int v1, .int (1 : Int32)]) (rest := []) (c_X5_figures l X h) mf_X5_figures lk1499 hx hb hml hown ht hK hZ hS hA 25 5 rfl rfl rfl ⟨rfl, rfl⟩ ⟨Nat.le_of_ble_eq_true rfl, Nat.le_of_ble_eq_true rfl⟩ rfl hl.1 rfl (Nat.le_of_ble_eq_true rfl) ⟨Nat.le_of_ble_eq_true rfl, Nat.le_of_ble_eq_true rfl⟩ ddX5_commandHere_125 (fun r27 σ26 H locs hS h => ?_)
            refine lv_if_eq (tgt := 161) hx hb ddX5_commandHere_128 (by decide) (fun c28 => ?_) (fun c28 => ?_)
            · replace h := h.1 c28
              refine lv_iconst (v := (0 : Int32)) hx hb ddX5_commandHere_161 (by decide) ?_
              exact k_zret hx hb hr hlocks hK hS rfl h ddX5_commandHere_162
            · replace h := h.2 c28
              refine lv_aload_n hx hb ddX5_commandHere_131 rfl (lv_at hl 1 rfl) ?_
              refine lv_bipush (v := (32 : Int32)) hx hb ddX5_commandHere_132 (by decide) ?_
              refine lv_iload_n hx hb ddX5_commandHere_134 rfl (lv_at hl 0 rfl) ?_
              refine lv_iconst (v := (1 : Int32)) hx hb ddX5_commandHere_135 (by decide) ?_
              refine lv_iadd hx hb ddX5_commandHere_136 ?_
              refine lv_iconst (v := (2 : Int32)) hx hb ddX5_commandHere_137 (by decide) ?_
              refine k_VI (As := [.int (32 : Int32), .int (v1 + (1 : Int32)), .int (2 : Int32)]) (rest := []) (c_X5_figures l X h) mf_X5_figures lk1499 hx hb hml hown ht hK hZ hS hA 25 5 rfl rfl rfl ⟨rfl, rfl⟩ ⟨Nat.le_of_ble_eq_true rfl, Nat.le_of_ble_eq_true rfl⟩ rfl hl.1 rfl (Nat.le_of_ble_eq_true rfl) ⟨Nat.le_of_ble_eq_true rfl, Nat.le_of_ble_eq_true rfl⟩ ddX5_commandHere_138 (fun r30 σ29 H locs hS h => ?_)
              refine lv_if_eq (tgt := 161) hx hb ddX5_commandHere_141 (by decide) (fun c31 => ?_) (fun c31 => ?_)
              · replace h := h.1 c31
                refine lv_iconst (v := (0 : Int32)) hx hb ddX5_commandHere_161 (by decide) ?_
                exact k_zret hx hb hr hlocks hK hS rfl h ddX5_commandHere_162
              · replace h := h.2 c31
                refine lv_aload_n hx hb ddX5_commandHere_144 rfl (lv_at hl 1 rfl) ?_
                refine lv_bipush (v := (45 : Int32)) hx hb ddX5_commandHere_145 (by decide) ?_
                refine lv_iload_n hx hb ddX5_commandHere_147 rfl (lv_at hl 0 rfl) ?_
                refine lv_iconst (v := (2 : Int32)) hx hb ddX5_commandHere_148 (by decide) ?_
                refine lv_iadd hx hb ddX5_commandHere_149 ?_
                refine lv_iconst (v := (2 : Int32)) hx hb ddX5_commandHere_150 (by decide) ?_
                refine k_VI (As := [.int (45 : Int32), .int (v1 + (2 : Int32)), .int (2 : Int32)]) (rest := []) (c_X5_figures l X h) mf_X5_figures lk1499 hx hb hml hown ht hK hZ hS hA 25 5 rfl rfl rfl ⟨rfl, rfl⟩ ⟨Nat.le_of_ble_eq_true rfl, Nat.le_of_ble_eq_true rfl⟩ rfl hl.1 rfl (Nat.le_of_ble_eq_true rfl) ⟨Nat.le_of_ble_eq_true rfl, Nat.le_of_ble_eq_true rfl⟩ ddX5_commandHere_151 (fun r33 σ32 H locs hS h => ?_)
                refine lv_if_eq (tgt := 161) hx hb ddX5_commandHere_154 (by decide) (fun c34 => ?_) (fun c34 => ?_)
                · replace h := h.1 c34
                  refine lv_iconst (v := (0 : Int32)) hx hb ddX5_commandHere_161 (by decide) ?_
                  exact k_zret hx hb hr hlocks hK hS rfl h ddX5_commandHere_162
                · replace h := h.2 c34
                  refine lv_iconst (v := (1 : Int32)) hx hb ddX5_commandHere_157 (by decide) ?_
                  refine lv_goto (tgt := 162) hx hb ddX5_commandHere_158 (by decide) ?_
                  exact k_zret hx hb hr hlocks hK hS rfl h ddX5_commandHere_162
      · replace h := h.2 c10
        refine lv_aload_n hx hb ddX5_commandHere_48 rfl (lv_at hl 1 rfl) ?_
        refine lv_iconst (v := (2 : Int32)) hx hb ddX5_commandHere_49 (by decide) ?_
        refine va_ldcS hx hb hown (hZ.2.1 13 _ rfl) ddX5_commandHere_50 ?_
        refine k_VI (As := [.int (2 : Int32), .ref (gK X 13)]) (rest := []) (c_X5_isWord_13 l X h) mf_X5_isWord lk1493 hx hb hml hown ht hK hZ hS hA 25 5 rfl rfl rfl ⟨rfl, rfl⟩ ⟨Nat.le_of_ble_eq_true rfl, Nat.le_of_ble_eq_true rfl⟩ rfl hl.1 rfl (Nat.le_of_ble_eq_true rfl) ⟨Nat.le_of_ble_eq_true rfl, Nat.le_of_ble_eq_true rfl⟩ ddX5_commandHere_52 (fun r36 σ35 H locs hS h => ?_)
        refine lv_if_eq (tgt := 99) hx hb ddX5_commandHere_55 (by decide) (fun c37 => ?_) (fun c37 => ?_)
        · replace h := h.1 c37
          refine lv_iconst (v := (0 : Int32)) hx hb ddX5_commandHere_99 (by decide) ?_
          exact k_zret hx hb hr hlocks hK hS rfl h ddX5_commandHere_100
        · replace h := h.2 c37
          refine lv_aload_n hx hb ddX5_commandHere_58 rfl (lv_at hl 1 rfl) ?_
          refine lv_bipush (v := (32 : Int32)) hx hb ddX5_commandHere_59 (by decide) ?_
          refine lv_iload_n hx hb ddX5_commandHere_61 rfl (lv_at hl 0 rfl) ?_
          refine lv_iconst (v := (1 : Int32)) hx hb ddX5_commandHere_62 (by decide) ?_
          refine k_VI (As := [.int (32 : Int32), .int v1, .int (1 : Int32)]) (rest := []) (c_X5_figures l X h) mf_X5_figures lk1499 hx hb hml hown ht hK hZ hS hA 25 5 rfl rfl rfl ⟨rfl, rfl⟩ ⟨Nat.le_of_ble_eq_true rfl, Nat.le_of_ble_eq_true rfl⟩ rfl hl.1 rfl (Nat.le_of_ble_eq_true rfl) ⟨Nat.le_of_ble_eq_true rfl, Nat.le_of_ble_eq_true rfl⟩ ddX5_commandHere_63 (fun r39 σ38 H locs hS h => ?_)
          refine lv_if_eq (tgt := 99) hx hb ddX5_commandHere_66 (by decide) (fun c40 => ?_) (fun c40 => ?_)
          · replace h := h.1 c40
            refine lv_iconst (v := (0 : Int32)) hx hb ddX5_commandHere_99 (by decide) ?_
            exact k_zret hx hb hr hlocks hK hS rfl h ddX5_commandHere_100
          · replace h := h.2 c40
            refine lv_aload_n hx hb ddX5_commandHere_69 rfl (lv_at hl 1 rfl) ?_
            refine lv_bipush (v := (64 : Int32)) hx hb ddX5_commandHere_70 (by decide) ?_
            refine lv_iload_n hx hb ddX5_commandHere_72 rfl (lv_at hl 0 rfl) ?_
            refine lv_iconst (v := (1 : Int32)) hx hb ddX5_commandHere_73 (by decide) ?_
            refine lv_iadd hx hb ddX5_commandHere_74 ?_
            refine lv_iconst (v := (2 : Int32)) hx hb ddX5_commandHere_75 (by decide) ?_
            refine k_VI (As := [.int (64 : Int32), .int (v1 + (1 : Int32)), .int (2 : Int32)]) (rest := []) (c_X5_figures l X h) mf_X5_figures lk1499 hx hb hml hown ht hK hZ hS hA 25 5 rfl rfl rfl ⟨rfl, rfl⟩ ⟨Nat.le_of_ble_eq_true rfl, Nat.le_of_ble_eq_true rfl⟩ rfl hl.1 rfl (Nat.le_of_ble_eq_true rfl) ⟨Nat.le_of_ble_eq_true rfl, Nat.le_of_ble_eq_true rfl⟩ ddX5_commandHere_76 (fun r42 σ41 H locs hS h => ?_)
            refine lv_if_eq (tgt := 99) hx hb ddX5_commandHere_79 (by decide) (fun c43 => ?_) (fun c43 => ?_)
            · replace h := h.1 c43
              refine lv_iconst (v := (0 : Int32)) hx hb ddX5_commandHere_99 (by decide) ?_
              exact k_zret hx hb hr hlocks hK hS rfl h ddX5_commandHere_100
            · replace h := h.2 c43
              refine lv_aload_n hx hb ddX5_commandHere_82 rfl (lv_at hl 1 rfl) ?_
              refine lv_bipush (v := (61 : Int32)) hx hb ddX5_commandHere_83 (by decide) ?_
              refine lv_iload_n hx hb ddX5_commandHere_85 rfl (lv_at hl 0 rfl) ?_
              refine lv_iconst (v := (2 : Int32)) hx hb ddX5_commandHere_86 (by decide) ?_
              refine lv_iadd hx hb ddX5_commandHere_87 ?_
              refine lv_iconst (v := (1 : Int32)) hx hb ddX5_commandHere_88 (by decide) ?_
              refine k_VI (As := [.int (61 : Int32), .int (v1 + (2 : Int32)), .int (1 : Int32)]) (rest := []) (c_X5_figures l X h) mf_X5_figures lk1499 hx hb hml hown ht hK hZ hS hA 25 5 rfl rfl rfl ⟨rfl, rfl⟩ ⟨Nat.le_of_ble_eq_true rfl, Nat.le_of_ble_eq_true rfl⟩ rfl hl.1 rfl (Nat.le_of_ble_eq_true rfl) ⟨Nat.le_of_ble_eq_true rfl, Nat.le_of_ble_eq_true rfl⟩ ddX5_commandHere_89 (fun r45 σ44 H locs hS h => ?_)
              refine lv_if_eq (tgt := 99) hx hb ddX5_commandHere_92 (by decide) (fun c46 => ?_) (fun c46 => ?_)
              · replace h := h.1 c46
                refine lv_iconst (v := (0 : Int32)) hx hb ddX5_commandHere_99 (by decide) ?_
                exact k_zret hx hb hr hlocks hK hS rfl h ddX5_commandHere_100
              · replace h := h.2 c46
                refine lv_iconst (v := (1 : Int32)) hx hb ddX5_commandHere_95 (by decide) ?_
                refine lv_goto (tgt := 100) hx hb ddX5_commandHere_96 (by decide) ?_
                exact k_zret hx hb hr hlocks hK hS rfl h ddX5_commandHere_100
    · replace h := h.2 c7
      refine lv_aload_n hx hb ddX5_commandHere_33 rfl (lv_at hl 1 rfl) ?_
      refine lv_iload_n hx hb ddX5_commandHere_34 rfl (lv_at hl 0 rfl) ?_
      refine k_VI (As := [.int v1]) (rest := []) (c_X5_withF l X h) mf_X5_withF lk1504 hx hb hml hown ht hK hZ hS hA 25 5 rfl rfl rfl ⟨rfl, rfl⟩ ⟨Nat.le_of_ble_eq_true rfl, Nat.le_of_ble_eq_true rfl⟩ rfl hl.1 rfl (Nat.le_of_ble_eq_true rfl) ⟨Nat.le_of_ble_eq_true rfl, Nat.le_of_ble_eq_true rfl⟩ ddX5_commandHere_35 (fun r48 σ47 H locs hS h => ?_)
      exact k_zret hx hb hr hlocks hK hS h.1 h.2 ddX5_commandHere_38
  · replace h := h.2 c4
    refine lv_aload_n hx hb ddX5_commandHere_18 rfl (lv_at hl 1 rfl) ?_
    refine lv_iload_n hx hb ddX5_commandHere_19 rfl (lv_at hl 0 rfl) ?_
    refine k_VI (As := [.int v1]) (rest := []) (c_X5_withG l X h) mf_X5_withG lk1488 hx hb hml hown ht hK hZ hS hA 25 5 rfl rfl rfl ⟨rfl, rfl⟩ ⟨Nat.le_of_ble_eq_true rfl, Nat.le_of_ble_eq_true rfl⟩ rfl hl.1 rfl (Nat.le_of_ble_eq_true rfl) ⟨Nat.le_of_ble_eq_true rfl, Nat.le_of_ble_eq_true rfl⟩ ddX5_commandHere_20 (fun r50 σ49 H locs hS h => ?_)
    exact k_zret hx hb hr hlocks hK hS h.1 h.2 ddX5_commandHere_23

set_option maxHeartbeats 4000000 in
set_option maxRecDepth 100000 in
theorem c_X5_isText (l : Launch) (X : GX) {σ : Mem} {K : Int32 → Mem → Prop} (h : wp_X5_isText σ K) : MI l X yX5_isText cX5_isText 1 ((Option.some Jvm.ClassFile.FieldType.boolean)) ({ frames := 7, cells := 0, slots := 0, locals := 150 } : Room) [.ref (ga X 25)] σ K := by
  refine ent_met (QQ := fun A => va_Qi K (BW X A) A) (by decide) (Nat.le_of_ble_eq_true rfl) ?_
  intro p e s m args below meth c A ls hx hb hr hlocks hml hown ht hK hZ hA hS hl
  have hown : s.vm.findClass "GuardRosterModel" = some m.cls := hown
  have hl : lv_has ls 1 [(0, .ref (ga X 25))] := hl
  have hJ38 : ∀ (σ : Mem) (H : Heap) (locs : List Loc) (ls : Array Slot), WS X A s.heap σ H locs → lv_has ls 1 [(0, .ref (ga X 25))] → wpJ_X5_isText_38 K σ → WI X K p l e ({ frames := 7, cells := 0, slots := 0, locals := 150 } : Room) s m args below meth c A H locs (F0 m 38 ls []) := by
    intro  σ H locs ls hS hl h
    unfold wpJ_X5_isText_38 at h
    refine lv_aload_n hx hb ddX5_isText_38 rfl (lv_at hl 0 rfl) ?_
    refine get_25_18 hx hb hown ht hK hS lk1142 ddX5_isText_39 ?_
    refine lv_aload_n hx hb ddX5_isText_42 rfl (lv_at hl 0 rfl) ?_
    refine get_25_11 hx hb hown ht hK hS lk1135 ddX5_isText_43 ?_
    refine lv_icmp_ne (tgt := 53) hx hb ddX5_isText_46 (by decide) (fun c10 => ?_) (fun c10 => ?_)
    · replace h := h.1 c10
      refine lv_iconst (v := (0 : Int32)) hx hb ddX5_isText_53 (by decide) ?_
      exact k_zret hx hb hr hlocks hK hS rfl h ddX5_isText_54
    · replace h := h.2 c10
      refine lv_iconst (v := (1 : Int32)) hx hb ddX5_isText_49 (by decide) ?_
      refine lv_goto (tgt := 54) hx hb ddX5_isText_50 (by decide) ?_
      exact k_zret hx hb hr hlocks hK hS rfl h ddX5_isText_54
  have hL10 : ∀ (n : Nat) (σ : Mem) (H : Heap) (locs : List Loc) (ls : Array Slot), WS X A s.heap σ H locs → lv_has ls 1 [(0, .ref (ga X 25))] → wlp (wpF_X5_isText_10 K) n (σ) → WI X K p l e ({ frames := 7, cells := 0, slots := 0, locals := 150 } : Room) s m args below meth c A H locs (F0 m 10 ls []) := by
    intro n10
    induction n10 with
    | zero => intro  σ H locs ls hS hl h; exact h.elim
    | succ n10 ih10 =>
      intro  σ H locs ls hS hl h
      replace h : wpS_X5_isText_10 K (wlp (wpF_X5_isText_10 K) n10) σ := h
      unfold wpS_X5_isText_10 at h
      refine lv_aload_n hx hb ddX5_isText_10 rfl (lv_at hl 0 rfl) ?_
      refine k_VI (As := []) (rest := []) (c_X5_commandHere l X h) mf_X5_commandHere lk1476 hx hb hml hown ht hK hZ hS hA 25 5 rfl rfl rfl ⟨rfl, rfl⟩ ⟨Nat.le_of_ble_eq_true rfl, Nat.le_of_ble_eq_true rfl⟩ rfl hl.1 rfl (Nat.le_of_ble_eq_true rfl) ⟨Nat.le_of_ble_eq_true rfl, Nat.le_of_ble_eq_true rfl⟩ ddX5_isText_11 (fun r4 σ3 H locs hS h => ?_)
      refine lv_if_ne (tgt := 19) hx hb ddX5_isText_14 (by decide) (fun c5 => ?_) (fun c5 => ?_)
      · replace h := h.1 c5
        refine lv_aload_n hx hb ddX5_isText_19 rfl (lv_at hl 0 rfl) ?_
        refine lv_dup hx hb ddX5_isText_20 rfl ?_
        refine get_25_20 hx hb hown ht hK hS lk1144 ddX5_isText_21 ?_
        refine lv_iconst (v := (1 : Int32)) hx hb ddX5_isText_24 (by decide) ?_
        refine lv_iadd hx hb ddX5_isText_25 ?_
        refine put_25_20 hx hb hown ht hK hS lk1144 ddX5_isText_26 (fun H locs hS => ?_)
        obtain ⟨σ6, eσ6⟩ : ∃ y : Mem, y = (st σ3 25 20 ((σ3 25 20) + (1 : Int32))) := ⟨_, rfl⟩
        rw [← eσ6] at hS
        replace h := h σ6 eσ6
        refine lv_aload_n hx hb ddX5_isText_29 rfl (lv_at hl 0 rfl) ?_
        refine lv_bipush (v := (59 : Int32)) hx hb ddX5_isText_30 (by decide) ?_
        refine k_VI (As := [.int (59 : Int32)]) (rest := []) (c_X5_skips l X h) mf_X5_skips lk1480 hx hb hml hown ht hK hZ hS hA 25 5 rfl rfl rfl ⟨rfl, rfl⟩ ⟨Nat.le_of_ble_eq_true rfl, Nat.le_of_ble_eq_true rfl⟩ rfl hl.1 rfl (Nat.le_of_ble_eq_true rfl) ⟨Nat.le_of_ble_eq_true rfl, Nat.le_of_ble_eq_true rfl⟩ ddX5_isText_32 (fun r8 σ7 H locs hS h => ?_)
        refine lv_if_ne (tgt := 10) hx hb ddX5_isText_35 (by decide) (fun c9 => ?_) (fun c9 => ?_)
        · replace h := h.1 c9
          exact ih10  _ _ _ _ hS (lv_sub hl [0] rfl) h
        · replace h := h.2 c9
          exact hJ38  _ _ _ _ hS (lv_sub hl [0] rfl) h
      · replace h := h.2 c5
        refine lv_iconst (v := (0 : Int32)) hx hb ddX5_isText_17 (by decide) ?_
        exact k_zret hx hb hr hlocks hK hS rfl h ddX5_isText_18
  unfold wp_X5_isText at h
  refine lv_aload_n hx hb ddX5_isText_0 rfl (lv_at hl 0 rfl) ?_
  refine lv_iconst (v := (0 : Int32)) hx hb ddX5_isText_1 (by decide) ?_
  refine put_25_18 hx hb hown ht hK hS lk1142 ddX5_isText_2 (fun H locs hS => ?_)
  obtain ⟨σ1, eσ1⟩ : ∃ y : Mem, y = (st σ 25 18 (0 : Int32)) := ⟨_, rfl⟩
  rw [← eσ1] at hS
  replace h := h σ1 eσ1
  refine lv_aload_n hx hb ddX5_isText_5 rfl (lv_at hl 0 rfl) ?_
  refine lv_iconst (v := (0 : Int32)) hx hb ddX5_isText_6 (by decide) ?_
  refine put_25_20 hx hb hown ht hK hS lk1144 ddX5_isText_7 (fun H locs hS => ?_)
  obtain ⟨σ2, eσ2⟩ : ∃ y : Mem, y = (st σ1 25 20 (0 : Int32)) := ⟨_, rfl⟩
  rw [← eσ2] at hS
  replace h := h σ2 eσ2
  obtain ⟨n, h⟩ := h
  exact hL10 n  _ _ _ _ hS (lv_sub hl [0] rfl) h

set_option maxHeartbeats 4000000 in
set_option maxRecDepth 100000 in
theorem c_X5_execute (l : Launch) (X : GX) {σ : Mem} {K : Int32 → Mem → Prop} (h : wp_X5_execute σ K) : MI l X yX5_execute cX5_execute 4 ((Option.some Jvm.ClassFile.FieldType.int)) ({ frames := 8, cells := 0, slots := 0, locals := 170 } : Room) [.ref (ga X 25)] σ K := by
  refine ent_met (QQ := fun A => va_Qi K (BW X A) A) (by decide) (Nat.le_of_ble_eq_true rfl) ?_
  intro p e s m args below meth c A ls hx hb hr hlocks hml hown ht hK hZ hA hS hl
  have hown : s.vm.findClass "GuardRosterModel" = some m.cls := hown
  have hl : lv_has ls 4 [(0, .ref (ga X 25))] := hl
  have hJ98 : ∀ (x2 x3 : Int32) (σ : Mem) (H : Heap) (locs : List Loc) (ls : Array Slot), WS X A s.heap σ H locs → lv_has ls 4 [(0, .ref (ga X 25)), (2, .int x2), (3, .int x3)] → wpJ_X5_execute_98 K x2 x3 σ → WI X K p l e ({ frames := 8, cells := 0, slots := 0, locals := 170 } : Room) s m args below meth c A H locs (F0 m 98 ls []) := by
    intro x2 x3 σ H locs ls hS hl h
    unfold wpJ_X5_execute_98 at h
    refine lv_aload_n hx hb ddX5_execute_98 rfl (lv_at hl 0 rfl) ?_
    refine lv_iconst (v := (0 : Int32)) hx hb ddX5_execute_99 (by decide) ?_
    refine put_25_6 hx hb hown ht hK hS rfl rfl lk1130 ddX5_execute_100 (fun H locs hS => ?_)
    obtain ⟨σ12, eσ12⟩ : ∃ y : Mem, y = (st σ 25 6 (0 : Int32)) := ⟨_, rfl⟩
    rw [← eσ12] at hS
    replace h := h σ12 eσ12
    refine lv_aload_n hx hb ddX5_execute_103 rfl (lv_at hl 0 rfl) ?_
    refine get_25_7 hx hb hown ht hK hS lk1131 ddX5_execute_104 ?_
    refine lv_if_le (tgt := 143) hx hb ddX5_execute_107 (by decide) (fun c13 => ?_) (fun c13 => ?_)
    · replace h := h.1 c13
      refine lv_aload_n hx hb ddX5_execute_143 rfl (lv_at hl 0 rfl) ?_
      refine lv_aload_n hx hb ddX5_execute_144 rfl (lv_at hl 0 rfl) ?_
      refine get_25_3 hx hb hown ht hK hS lk1127 ddX5_execute_145 ?_
      refine k_VV (As := [.ref (ga X 29)]) (rest := []) (c_X5_keeps_29 l X h) mf_X5_keeps lk1203 hx hb hml hown ht hK hZ hS hA 25 5 rfl rfl rfl ⟨rfl, rfl⟩ ⟨Nat.le_of_ble_eq_true rfl, Nat.le_of_ble_eq_true rfl⟩ rfl hl.1 rfl (Nat.le_of_ble_eq_true rfl) ⟨Nat.le_of_ble_eq_true rfl, Nat.le_of_ble_eq_true rfl⟩ ddX5_execute_148 (fun σ14 H locs hS h => ?_)
      refine lv_aload_n hx hb ddX5_execute_151 rfl (lv_at hl 0 rfl) ?_
      refine get_25_20 hx hb hown ht hK hS lk1144 ddX5_execute_152 ?_
      exact k_iret hx hb hr hlocks hK hS h ddX5_execute_155
    · replace h := h.2 c13
      refine lv_aload_n hx hb ddX5_execute_110 rfl (lv_at hl 0 rfl) ?_
      refine get_25_3 hx hb hown ht hK hS lk1127 ddX5_execute_111 ?_
      refine lv_iconst (v := (0 : Int32)) hx hb ddX5_execute_114 (by decide) ?_
      refine lv_aload_n hx hb ddX5_execute_115 rfl (lv_at hl 0 rfl) ?_
      refine get_25_0 hx hb hown ht hK hS lk1124 ddX5_execute_116 ?_
      refine lv_iconst (v := (0 : Int32)) hx hb ddX5_execute_119 (by decide) ?_
      refine k_SV (As := [.ref (ga X 29), .int (0 : Int32), .ref (ga X 26), .int (0 : Int32)]) (rest := []) (c_X5_copies_29_26 l X h) mf_X5_copies lk1207 hx hb hml hown ht hK hZ hS hA ⟨rfl, rfl⟩ ⟨Nat.le_of_ble_eq_true rfl, Nat.le_of_ble_eq_true rfl⟩ rfl hl.1 rfl (Nat.le_of_ble_eq_true rfl) ⟨Nat.le_of_ble_eq_true rfl, Nat.le_of_ble_eq_true rfl⟩ ddX5_execute_120 (fun σ15 H locs hS h => ?_)
      refine lv_aload_n hx hb ddX5_execute_123 rfl (lv_at hl 0 rfl) ?_
      refine lv_iload_n hx hb ddX5_execute_124 rfl (lv_at hl 1 rfl) ?_
      refine put_25_13 hx hb hown ht hK hS lk1137 ddX5_execute_125 (fun H locs hS => ?_)
      obtain ⟨σ16, eσ16⟩ : ∃ y : Mem, y = (st σ15 25 13 x2) := ⟨_, rfl⟩
      rw [← eσ16] at hS
      replace h := h σ16 eσ16
      refine lv_aload_n hx hb ddX5_execute_128 rfl (lv_at hl 0 rfl) ?_
      refine lv_iconst (v := (2 : Int32)) hx hb ddX5_execute_129 (by decide) ?_
      refine put_25_7 hx hb hown ht hK hS lk1131 ddX5_execute_130 (fun H locs hS => ?_)
      obtain ⟨σ17, eσ17⟩ : ∃ y : Mem, y = (st σ16 25 7 (2 : Int32)) := ⟨_, rfl⟩
      rw [← eσ17] at hS
      replace h := h σ17 eσ17
      refine lv_iload_n hx hb ddX5_execute_133 rfl (lv_at hl 2 rfl) ?_
      refine lv_if_le (tgt := 141) hx hb ddX5_execute_134 (by decide) (fun c18 => ?_) (fun c18 => ?_)
      · replace h := h.1 c18
        refine lv_iload_n hx hb ddX5_execute_141 rfl (lv_at hl 2 rfl) ?_
        exact k_iret hx hb hr hlocks hK hS h ddX5_execute_142
      · replace h := h.2 c18
        refine lv_iconst (v := (0 : Int32)) hx hb ddX5_execute_137 (by decide) ?_
        refine lv_goto (tgt := 142) hx hb ddX5_execute_138 (by decide) ?_
        exact k_iret hx hb hr hlocks hK hS h ddX5_execute_142
  have hL62 : ∀ (n : Nat) (x2 x3 : Int32) (σ : Mem) (H : Heap) (locs : List Loc) (ls : Array Slot), WS X A s.heap σ H locs → lv_has ls 4 [(0, .ref (ga X 25)), (2, .int x2), (3, .int x3)] → wlp (wpF_X5_execute_62 K) n (x2, x3, σ) → WI X K p l e ({ frames := 8, cells := 0, slots := 0, locals := 170 } : Room) s m args below meth c A H locs (F0 m 62 ls []) := by
    intro n62
    induction n62 with
    | zero => intro x2 x3 σ H locs ls hS hl h; exact h.elim
    | succ n62 ih62 =>
      intro x2 x3 σ H locs ls hS hl h
      replace h : wpS_X5_execute_62 K (wlp (wpF_X5_execute_62 K) n62) x2 x3 σ := h
      unfold wpS_X5_execute_62 at h
      refine lv_iload_n hx hb ddX5_execute_62 rfl (lv_at hl 1 rfl) ?_
      refine lv_aload_n hx hb ddX5_execute_63 rfl (lv_at hl 0 rfl) ?_
      refine get_25_20 hx hb hown ht hK hS lk1144 ddX5_execute_64 ?_
      refine lv_icmp_ge (tgt := 98) hx hb ddX5_execute_67 (by decide) (fun c11 => ?_) (fun c11 => ?_)
      · replace h := h.1 c11
        exact hJ98 _ _ _ _ _ _ hS (lv_sub hl [0, 1, 2] rfl) h
      · replace h := h.2 c11
        refine lv_aload_n hx hb ddX5_execute_70 rfl (lv_at hl 0 rfl) ?_
        refine get_25_7 hx hb hown ht hK hS lk1131 ddX5_execute_71 ?_
        refine lv_if_ne (tgt := 98) hx hb ddX5_execute_74 (by decide) (fun c19 => ?_) (fun c19 => ?_)
        · replace h := h.1 c19
          exact hJ98 _ _ _ _ _ _ hS (lv_sub hl [0, 1, 2] rfl) h
        · replace h := h.2 c19
          refine lv_aload_n hx hb ddX5_execute_77 rfl (lv_at hl 0 rfl) ?_
          refine lv_iconst (v := (4 : Int32)) hx hb ddX5_execute_78 (by decide) ?_
          refine lv_iload_n hx hb ddX5_execute_79 rfl (lv_at hl 1 rfl) ?_
          refine lv_imul hx hb ddX5_execute_80 ?_
          refine k_VI (As := [.int ((4 : Int32) * x2)]) (rest := []) (c_X5_carries l X h) mf_X5_carries lk1514 hx hb hml hown ht hK hZ hS hA 25 5 rfl rfl rfl ⟨rfl, rfl⟩ ⟨Nat.le_of_ble_eq_true rfl, Nat.le_of_ble_eq_true rfl⟩ rfl hl.1 rfl (Nat.le_of_ble_eq_true rfl) ⟨Nat.le_of_ble_eq_true rfl, Nat.le_of_ble_eq_true rfl⟩ ddX5_execute_81 (fun r21 σ20 H locs hS h => ?_)
          refine lv_istore_n (lv' := [(3, .int r21), (0, .ref (ga X 25)), (2, .int x2)]) hx hb ddX5_execute_84 rfl hl (by decide) rfl (fun ls hl => ?_)
          refine lv_aload_n hx hb ddX5_execute_85 rfl (lv_at hl 1 rfl) ?_
          refine get_25_7 hx hb hown ht hK hS lk1131 ddX5_execute_86 ?_
          refine lv_if_ne (tgt := 62) hx hb ddX5_execute_89 (by decide) (fun c22 => ?_) (fun c22 => ?_)
          · replace h := h.1 c22
            exact ih62 _ _ _ _ _ _ hS (lv_sub hl [1, 2, 0] rfl) h
          · replace h := h.2 c22
            obtain ⟨v23, ev23⟩ : ∃ y : Int32, y = x2 + (1 : Int32) := ⟨_, rfl⟩
            replace h := h v23 ev23
            refine lv_iinc (v := v23) (lv' := [(2, .int v23), (3, .int r21), (0, .ref (ga X 25))]) hx hb ddX5_execute_92 hl (k := 2) rfl (by rw [ev23]; rfl) (by decide) rfl (fun ls hl => ?_)
            refine lv_goto (tgt := 62) hx hb ddX5_execute_95 (by decide) ?_
            exact ih62 _ _ _ _ _ _ hS (lv_sub hl [2, 0, 1] rfl) h
  have hJ32 : ∀ (y1 : Int32) (σ : Mem) (H : Heap) (locs : List Loc) (ls : Array Slot), WS X A s.heap σ H locs → lv_has ls 4 [(0, .ref (ga X 25))] → wpJ_X5_execute_32 K y1 σ → WI X K p l e ({ frames := 8, cells := 0, slots := 0, locals := 170 } : Room) s m args below meth c A H locs (F0 m 32 ls [.int y1, .ref (ga X 25)]) := by
    intro y1 σ H locs ls hS hl h
    unfold wpJ_X5_execute_32 at h
    refine k_VI (As := [.int y1]) (rest := []) (c_X5_fails l X h) mf_X5_fails lk1199 hx hb hml hown ht hK hZ hS hA 25 5 rfl rfl rfl ⟨rfl, rfl⟩ ⟨Nat.le_of_ble_eq_true rfl, Nat.le_of_ble_eq_true rfl⟩ rfl hl.1 rfl (Nat.le_of_ble_eq_true rfl) ⟨Nat.le_of_ble_eq_true rfl, Nat.le_of_ble_eq_true rfl⟩ ddX5_execute_32 (fun r7 σ6 H locs hS h => ?_)
    refine lv_if_eq (tgt := 40) hx hb ddX5_execute_35 (by decide) (fun c8 => ?_) (fun c8 => ?_)
    · replace h := h.1 c8
      refine lv_aload_n hx hb ddX5_execute_40 rfl (lv_at hl 0 rfl) ?_
      refine get_25_0 hx hb hown ht hK hS lk1124 ddX5_execute_41 ?_
      refine lv_iconst (v := (0 : Int32)) hx hb ddX5_execute_44 (by decide) ?_
      refine lv_aload_n hx hb ddX5_execute_45 rfl (lv_at hl 0 rfl) ?_
      refine get_25_3 hx hb hown ht hK hS lk1127 ddX5_execute_46 ?_
      refine lv_iconst (v := (0 : Int32)) hx hb ddX5_execute_49 (by decide) ?_
      refine k_SV (As := [.ref (ga X 26), .int (0 : Int32), .ref (ga X 29), .int (0 : Int32)]) (rest := []) (c_X5_copies_26_29 l X h) mf_X5_copies lk1207 hx hb hml hown ht hK hZ hS hA ⟨rfl, rfl⟩ ⟨Nat.le_of_ble_eq_true rfl, Nat.le_of_ble_eq_true rfl⟩ rfl hl.1 rfl (Nat.le_of_ble_eq_true rfl) ⟨Nat.le_of_ble_eq_true rfl, Nat.le_of_ble_eq_true rfl⟩ ddX5_execute_50 (fun σ9 H locs hS h => ?_)
      refine lv_aload_n hx hb ddX5_execute_53 rfl (lv_at hl 0 rfl) ?_
      refine lv_iconst (v := (1 : Int32)) hx hb ddX5_execute_54 (by decide) ?_
      refine put_25_6 hx hb hown ht hK hS rfl rfl lk1130 ddX5_execute_55 (fun H locs hS => ?_)
      obtain ⟨σ10, eσ10⟩ : ∃ y : Mem, y = (st σ9 25 6 (1 : Int32)) := ⟨_, rfl⟩
      rw [← eσ10] at hS
      replace h := h σ10 eσ10
      refine lv_iconst (v := (0 : Int32)) hx hb ddX5_execute_58 (by decide) ?_
      refine lv_istore_n (lv' := [(2, .int (0 : Int32)), (0, .ref (ga X 25))]) hx hb ddX5_execute_59 rfl hl (by decide) rfl (fun ls hl => ?_)
      refine lv_iconst (v := (0 : Int32)) hx hb ddX5_execute_60 (by decide) ?_
      refine lv_istore_n (lv' := [(3, .int (0 : Int32)), (2, .int (0 : Int32)), (0, .ref (ga X 25))]) hx hb ddX5_execute_61 rfl hl (by decide) rfl (fun ls hl => ?_)
      obtain ⟨n, h⟩ := h
      exact hL62 n _ _ _ _ _ _ hS (lv_sub hl [2, 1, 0] rfl) h
    · replace h := h.2 c8
      refine lv_iconst (v := (0 : Int32)) hx hb ddX5_execute_38 (by decide) ?_
      exact k_iret hx hb hr hlocks hK hS h ddX5_execute_39
  have hJ17 : ∀ (x1 : Int32) (σ : Mem) (H : Heap) (locs : List Loc) (ls : Array Slot), WS X A s.heap σ H locs → lv_has ls 4 [(0, .ref (ga X 25)), (1, .int x1)] → wpJ_X5_execute_17 K x1 σ → WI X K p l e ({ frames := 8, cells := 0, slots := 0, locals := 170 } : Room) s m args below meth c A H locs (F0 m 17 ls []) := by
    intro x1 σ H locs ls hS hl h
    unfold wpJ_X5_execute_17 at h
    refine lv_aload_n hx hb ddX5_execute_17 rfl (lv_at hl 0 rfl) ?_
    refine lv_iconst (v := (0 : Int32)) hx hb ddX5_execute_18 (by decide) ?_
    refine put_25_11 hx hb hown ht hK hS lk1135 ddX5_execute_19 (fun H locs hS => ?_)
    obtain ⟨σ4, eσ4⟩ : ∃ y : Mem, y = (st σ 25 11 (0 : Int32)) := ⟨_, rfl⟩
    rw [← eσ4] at hS
    replace h := h σ4 eσ4
    refine lv_aload_n hx hb ddX5_execute_22 rfl (lv_at hl 0 rfl) ?_
    refine lv_iload_n hx hb ddX5_execute_23 rfl (lv_at hl 1 rfl) ?_
    refine lv_if_eq (tgt := 31) hx hb ddX5_execute_24 (by decide) (fun c5 => ?_) (fun c5 => ?_)
    · replace h := h.1 c5
      refine lv_iconst (v := (1 : Int32)) hx hb ddX5_execute_31 (by decide) ?_
      exact hJ32 _ _ _ _ _ hS (lv_sub hl [0] rfl) h
    · replace h := h.2 c5
      refine lv_iconst (v := (0 : Int32)) hx hb ddX5_execute_27 (by decide) ?_
      refine lv_goto (tgt := 32) hx hb ddX5_execute_28 (by decide) ?_
      exact hJ32 _ _ _ _ _ hS (lv_sub hl [0] rfl) h
  unfold wp_X5_execute at h
  refine lv_aload_n hx hb ddX5_execute_0 rfl (lv_at hl 0 rfl) ?_
  refine k_VI (As := []) (rest := []) (c_X5_isText l X h) mf_X5_isText lk1472 hx hb hml hown ht hK hZ hS hA 25 5 rfl rfl rfl ⟨rfl, rfl⟩ ⟨Nat.le_of_ble_eq_true rfl, Nat.le_of_ble_eq_true rfl⟩ rfl hl.1 rfl (Nat.le_of_ble_eq_true rfl) ⟨Nat.le_of_ble_eq_true rfl, Nat.le_of_ble_eq_true rfl⟩ ddX5_execute_1 (fun r2 σ1 H locs hS h => ?_)
  refine lv_istore_n (lv' := [(1, .int r2), (0, .ref (ga X 25))]) hx hb ddX5_execute_4 rfl hl (by decide) rfl (fun ls hl => ?_)
  refine lv_iload_n hx hb ddX5_execute_5 rfl (lv_at hl 0 rfl) ?_
  refine lv_if_ne (tgt := 17) hx hb ddX5_execute_6 (by decide) (fun c3 => ?_) (fun c3 => ?_)
  · replace h := h.1 c3
    exact hJ17 _ _ _ _ _ hS (lv_sub hl [1, 0] rfl) h
  · replace h := h.2 c3
    refine lv_aload_n hx hb ddX5_execute_9 rfl (lv_at hl 1 rfl) ?_
    refine lv_aload_n hx hb ddX5_execute_10 rfl (lv_at hl 1 rfl) ?_
    refine get_25_18 hx hb hown ht hK hS lk1142 ddX5_execute_11 ?_
    refine put_25_12 hx hb hown ht hK hS lk1136 ddX5_execute_14 (fun H locs hS => ?_)
    obtain ⟨σ24, eσ24⟩ : ∃ y : Mem, y = (st σ1 25 12 (σ1 25 18)) := ⟨_, rfl⟩
    rw [← eσ24] at hS
    replace h := h σ24 eσ24
    exact hJ17 _ _ _ _ _ hS (lv_sub hl [1, 0] rfl) h
