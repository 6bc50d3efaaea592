set_option maxHeartbeats 4000000 in
set_option maxRecDepth 100000 in
theorem c_X4_throwUnlessSlot_q (l : Launch) (X : GX) {x1 : Int32} {σ : Mem} {K : Mem → Prop} (h : wp_X4_throwUnlessSlot_q x1 σ K) : MV l X yX4_throwUnlessSlot cX4_throwUnlessSlot 2 ((Option.none : Option Jvm.ClassFile.FieldType)) ({ frames := 1, cells := 0, slots := 0, locals := 21 } : Room) [.ref (ga X 0), .int x1] σ K := by
  refine ent_met (QQ := fun A => va_Qv K (BW X A) A) (by decide) (Nat.le_of_ble_eq_true rfl) ?_
  intro p e s m args below meth c A ls hx hb hr hlocks hml hown ht hK hZ hA hS hl
  have hown : s.vm.findClass "GuardRoster" = some m.cls := hown
  have hl : lv_has ls 2 [(0, .ref (ga X 0)), (1, .int x1)] := hl
  unfold wp_X4_throwUnlessSlot_q at h
  refine lv_aload_n hx hb ddX4_throwUnlessSlot_0 rfl (lv_at hl 0 rfl) ?_
  refine get_0_0 hx hb hown ht hK hS lk109 ddX4_throwUnlessSlot_1 ?_
  refine lv_iload_n hx hb ddX4_throwUnlessSlot_4 rfl (lv_at hl 1 rfl) ?_
  refine k_VI (As := [.int x1]) (rest := []) (c_X2_isSlot l X h) mf_X2_isSlot lk239 hx hb hml hown ht hK hZ hS hA 1 1 rfl rfl rfl ⟨rfl, rfl⟩ ⟨Nat.le_of_ble_eq_true rfl, Nat.le_of_ble_eq_true rfl⟩ rfl hl.1 rfl (Nat.le_of_ble_eq_true rfl) ⟨Nat.le_of_ble_eq_true rfl, Nat.le_of_ble_eq_true rfl⟩ ddX4_throwUnlessSlot_5 (fun r2 σ1 H locs hS h => ?_)
  refine lv_if_ne (tgt := 22) hx hb ddX4_throwUnlessSlot_8 (by decide) (fun c3 => ?_) (fun c3 => ?_)
  · replace h := h.1 c3
    exact k_vret hx hb hr hlocks hK hS h ddX4_throwUnlessSlot_22
  · replace h := h.2 c3
    exact h.elim

set_option maxHeartbeats 4000000 in
set_option maxRecDepth 100000 in
theorem c_X4_mostDuties_q (l : Launch) (X : GX) {x1 : Int32} {σ : Mem} {K : Int32 → Mem → Prop} (h : wp_X4_mostDuties_q x1 σ K) : MI l X yX4_mostDuties cX4_mostDuties 2 ((Option.some Jvm.ClassFile.FieldType.int)) ({ frames := 8, cells := 0, slots := 0, locals := 197 } : Room) [.ref (ga X 0), .int x1] σ K := by
  refine ent_met (QQ := fun A => va_Qi K (BW X A) A) (by decide) (Nat.le_of_ble_eq_true rfl) ?_
  intro p e s m args below meth c A ls hx hb hr hlocks hml hown ht hK hZ hA hS hl
  have hown : s.vm.findClass "GuardRoster" = some m.cls := hown
  have hl : lv_has ls 2 [(0, .ref (ga X 0)), (1, .int x1)] := hl
  unfold wp_X4_mostDuties_q at h
  refine lv_aload_n hx hb ddX4_mostDuties_0 rfl (lv_at hl 0 rfl) ?_
  refine lv_iload_n hx hb ddX4_mostDuties_1 rfl (lv_at hl 1 rfl) ?_
  refine k_VV (As := [.int x1]) (rest := []) (c_X4_throwUnlessSlot_q l X h) mf_X4_throwUnlessSlot lk235 hx hb hml hown ht hK hZ hS hA 0 0 rfl rfl rfl ⟨rfl, rfl⟩ ⟨Nat.le_of_ble_eq_true rfl, Nat.le_of_ble_eq_true rfl⟩ rfl hl.1 rfl (Nat.le_of_ble_eq_true rfl) ⟨Nat.le_of_ble_eq_true rfl, Nat.le_of_ble_eq_true rfl⟩ ddX4_mostDuties_2 (fun σ1 H locs hS h => ?_)
  refine lv_aload_n hx hb ddX4_mostDuties_5 rfl (lv_at hl 0 rfl) ?_
  refine get_0_2 hx hb hown ht hK hS lk111 ddX4_mostDuties_6 ?_
  refine lv_aload_n hx hb ddX4_mostDuties_9 rfl (lv_at hl 0 rfl) ?_
  refine get_0_0 hx hb hown ht hK hS lk109 ddX4_mostDuties_10 ?_
  refine lv_iload_n hx hb ddX4_mostDuties_13 rfl (lv_at hl 1 rfl) ?_
  refine k_VV (As := [.ref (ga X 1), .int x1]) (rest := []) (c_X3_prepare l X h) mf_X3_prepare lk312 hx hb hml hown ht hK hZ hS hA 15 3 rfl rfl rfl ⟨rfl, rfl⟩ ⟨Nat.le_of_ble_eq_true rfl, Nat.le_of_ble_eq_true rfl⟩ rfl hl.1 rfl (Nat.le_of_ble_eq_true rfl) ⟨Nat.le_of_ble_eq_true rfl, Nat.le_of_ble_eq_true rfl⟩ ddX4_mostDuties_14 (fun σ2 H locs hS h => ?_)
  refine lv_aload_n hx hb ddX4_mostDuties_17 rfl (lv_at hl 0 rfl) ?_
  refine get_0_2 hx hb hown ht hK hS lk111 ddX4_mostDuties_18 ?_
  refine k_VI (As := []) (rest := []) (c_X3_countByPaths l X h) mf_X3_countByPaths lk345 hx hb hml hown ht hK hZ hS hA 15 3 rfl rfl rfl ⟨rfl, rfl⟩ ⟨Nat.le_of_ble_eq_true rfl, Nat.le_of_ble_eq_true rfl⟩ rfl hl.1 rfl (Nat.le_of_ble_eq_true rfl) ⟨Nat.le_of_ble_eq_true rfl, Nat.le_of_ble_eq_true rfl⟩ ddX4_mostDuties_21 (fun r4 σ3 H locs hS h => ?_)
  exact k_iret hx hb hr hlocks hK hS h ddX4_mostDuties_24

set_option maxHeartbeats 4000000 in
set_option maxRecDepth 100000 in
theorem c_X4_mostDutiesBySets_q (l : Launch) (X : GX) {x1 : Int32} {σ : Mem} {K : Int32 → Mem → Prop} (h : wp_X4_mostDutiesBySets_q x1 σ K) : MI l X yX4_mostDutiesBySets cX4_mostDutiesBySets 2 ((Option.some Jvm.ClassFile.FieldType.int)) ({ frames := 5, cells := 0, slots := 0, locals := 113 } : Room) [.ref (ga X 0), .int x1] σ K := by
  refine ent_met (QQ := fun A => va_Qi K (BW X A) A) (by decide) (Nat.le_of_ble_eq_true rfl) ?_
  intro p e s m args below meth c A ls hx hb hr hlocks hml hown ht hK hZ hA hS hl
  have hown : s.vm.findClass "GuardRoster" = some m.cls := hown
  have hl : lv_has ls 2 [(0, .ref (ga X 0)), (1, .int x1)] := hl
  unfold wp_X4_mostDutiesBySets_q at h
  refine lv_aload_n hx hb ddX4_mostDutiesBySets_0 rfl (lv_at hl 0 rfl) ?_
  refine lv_iload_n hx hb ddX4_mostDutiesBySets_1 rfl (lv_at hl 1 rfl) ?_
  refine k_VV (As := [.int x1]) (rest := []) (c_X4_throwUnlessSlot_q l X h) mf_X4_throwUnlessSlot lk235 hx hb hml hown ht hK hZ hS hA 0 0 rfl rfl rfl ⟨rfl, rfl⟩ ⟨Nat.le_of_ble_eq_true rfl, Nat.le_of_ble_eq_true rfl⟩ rfl hl.1 rfl (Nat.le_of_ble_eq_true rfl) ⟨Nat.le_of_ble_eq_true rfl, Nat.le_of_ble_eq_true rfl⟩ ddX4_mostDutiesBySets_2 (fun σ1 H locs hS h => ?_)
  refine lv_aload_n hx hb ddX4_mostDutiesBySets_5 rfl (lv_at hl 0 rfl) ?_
  refine get_0_2 hx hb hown ht hK hS lk111 ddX4_mostDutiesBySets_6 ?_
  refine lv_aload_n hx hb ddX4_mostDutiesBySets_9 rfl (lv_at hl 0 rfl) ?_
  refine get_0_0 hx hb hown ht hK hS lk109 ddX4_mostDutiesBySets_10 ?_
  refine lv_iload_n hx hb ddX4_mostDutiesBySets_13 rfl (lv_at hl 1 rfl) ?_
  refine k_VV (As := [.ref (ga X 1), .int x1]) (rest := []) (c_X3_prepare l X h) mf_X3_prepare lk312 hx hb hml hown ht hK hZ hS hA 15 3 rfl rfl rfl ⟨rfl, rfl⟩ ⟨Nat.le_of_ble_eq_true rfl, Nat.le_of_ble_eq_true rfl⟩ rfl hl.1 rfl (Nat.le_of_ble_eq_true rfl) ⟨Nat.le_of_ble_eq_true rfl, Nat.le_of_ble_eq_true rfl⟩ ddX4_mostDutiesBySets_14 (fun σ2 H locs hS h => ?_)
  refine lv_aload_n hx hb ddX4_mostDutiesBySets_17 rfl (lv_at hl 0 rfl) ?_
  refine get_0_2 hx hb hown ht hK hS lk111 ddX4_mostDutiesBySets_18 ?_
  refine k_VI (As := []) (rest := []) (c_X3_countBySets l X h) mf_X3_countBySets lk356 hx hb hml hown ht hK hZ hS hA 15 3 rfl rfl rfl ⟨rfl, rfl⟩ ⟨Nat.le_of_ble_eq_true rfl, Nat.le_of_ble_eq_true rfl⟩ rfl hl.1 rfl (Nat.le_of_ble_eq_true rfl) ⟨Nat.le_of_ble_eq_true rfl, Nat.le_of_ble_eq_true rfl⟩ ddX4_mostDutiesBySets_21 (fun r4 σ3 H locs hS h => ?_)
  exact k_iret hx hb hr hlocks hK hS h ddX4_mostDutiesBySets_24

set_option maxHeartbeats 4000000 in
set_option maxRecDepth 100000 in
theorem c_X4_isConsistent (l : Launch) (X : GX) {σ : Mem} {K : Int32 → Mem → Prop} (h : wp_X4_isConsistent σ K) : MI l X yX4_isConsistent cX4_isConsistent 2 ((Option.some Jvm.ClassFile.FieldType.boolean)) ({ frames := 9, cells := 0, slots := 0, locals := 218 } : Room) [.ref (ga X 0)] σ K := by
  refine ent_met (QQ := fun A => va_Qi K (BW X A) A) (by decide) (Nat.le_of_ble_eq_true rfl) ?_
  intro p e s m args below meth c A ls hx hb hr hlocks hml hown ht hK hZ hA hS hl
  have hown : s.vm.findClass "GuardRoster" = some m.cls := hown
  have hl : lv_has ls 2 [(0, .ref (ga X 0))] := hl
  have hL15 : ∀ (n : Nat) (x1 : Int32) (σ : Mem) (H : Heap) (locs : List Loc) (ls : Array Slot), WS X A s.heap σ H locs → lv_has ls 2 [(0, .ref (ga X 0)), (1, .int x1)] → wlp (wpF_X4_isConsistent_15 K) n (x1, σ) → WI X K p l e ({ frames := 9, cells := 0, slots := 0, locals := 218 } : Room) s m args below meth c A H locs (F0 m 15 ls []) := by
    intro n15
    induction n15 with
    | zero => intro x1 σ H locs ls hS hl h; exact h.elim
    | succ n15 ih15 =>
      intro x1 σ H locs ls hS hl h
      replace h : wpS_X4_isConsistent_15 K (wlp (wpF_X4_isConsistent_15 K) n15) x1 σ := h
      unfold wpS_X4_isConsistent_15 at h
      refine lv_iload_n hx hb ddX4_isConsistent_15 rfl (lv_at hl 1 rfl) ?_
      refine lv_bipush (v := (28 : Int32)) hx hb ddX4_isConsistent_16 (by decide) ?_
      refine lv_icmp_ge (tgt := 42) hx hb ddX4_isConsistent_18 (by decide) (fun c6 => ?_) (fun c6 => ?_)
      · replace h := h.1 c6
        refine lv_aload_n hx hb ddX4_isConsistent_42 rfl (lv_at hl 0 rfl) ?_
        refine get_0_0 hx hb hown ht hK hS lk109 ddX4_isConsistent_43 ?_
        refine k_VI (As := []) (rest := []) (c_X2_allRest l X h) mf_X2_allRest lk371 hx hb hml hown ht hK hZ hS hA 1 1 rfl rfl rfl ⟨rfl, rfl⟩ ⟨Nat.le_of_ble_eq_true rfl, Nat.le_of_ble_eq_true rfl⟩ rfl hl.1 rfl (Nat.le_of_ble_eq_true rfl) ⟨Nat.le_of_ble_eq_true rfl, Nat.le_of_ble_eq_true rfl⟩ ddX4_isConsistent_46 (fun r8 σ7 H locs hS h => ?_)
        exact k_zret hx hb hr hlocks hK hS h.1 h.2 ddX4_isConsistent_49
      · replace h := h.2 c6
        refine lv_aload_n hx hb ddX4_isConsistent_21 rfl (lv_at hl 0 rfl) ?_
        refine lv_iload_n hx hb ddX4_isConsistent_22 rfl (lv_at hl 1 rfl) ?_
        refine k_VI (As := [.int x1]) (rest := []) (c_X4_mostDuties_q l X h) mf_X4_mostDuties lk231 hx hb hml hown ht hK hZ hS hA 0 0 rfl rfl rfl ⟨rfl, rfl⟩ ⟨Nat.le_of_ble_eq_true rfl, Nat.le_of_ble_eq_true rfl⟩ rfl hl.1 rfl (Nat.le_of_ble_eq_true rfl) ⟨Nat.le_of_ble_eq_true rfl, Nat.le_of_ble_eq_true rfl⟩ ddX4_isConsistent_23 (fun r10 σ9 H locs hS h => ?_)
        refine lv_aload_n hx hb ddX4_isConsistent_26 rfl (lv_at hl 0 rfl) ?_
        refine lv_iload_n hx hb ddX4_isConsistent_27 rfl (lv_at hl 1 rfl) ?_
        refine k_VI (As := [.int x1]) (rest := [.int r10]) (c_X4_mostDutiesBySets_q l X h) mf_X4_mostDutiesBySets lk352 hx hb hml hown ht hK hZ hS hA 0 0 rfl rfl rfl ⟨rfl, rfl⟩ ⟨Nat.le_of_ble_eq_true rfl, Nat.le_of_ble_eq_true rfl⟩ rfl hl.1 rfl (Nat.le_of_ble_eq_true rfl) ⟨Nat.le_of_ble_eq_true rfl, Nat.le_of_ble_eq_true rfl⟩ ddX4_isConsistent_28 (fun r12 σ11 H locs hS h => ?_)
        refine lv_icmp_eq (tgt := 36) hx hb ddX4_isConsistent_31 (by decide) (fun c13 => ?_) (fun c13 => ?_)
        · replace h := h.1 c13
          obtain ⟨v14, ev14⟩ : ∃ y : Int32, y = x1 + (1 : Int32) := ⟨_, rfl⟩
          replace h := h v14 ev14
          refine lv_iinc (v := v14) (lv' := [(1, .int v14), (0, .ref (ga X 0))]) hx hb ddX4_isConsistent_36 hl (k := 1) rfl (by rw [ev14]; rfl) (by decide) rfl (fun ls hl => ?_)
          refine lv_goto (tgt := 15) hx hb ddX4_isConsistent_39 (by decide) ?_
          exact ih15 _ _ _ _ _ hS (lv_sub hl [1, 0] rfl) h
        · replace h := h.2 c13
          refine lv_iconst (v := (0 : Int32)) hx hb ddX4_isConsistent_34 (by decide) ?_
          exact k_zret hx hb hr hlocks hK hS rfl h ddX4_isConsistent_35
  unfold wp_X4_isConsistent at h
  refine lv_aload_n hx hb ddX4_isConsistent_0 rfl (lv_at hl 0 rfl) ?_
  refine k_VI (As := []) (rest := []) (c_X4_openPlaces l X h) mf_X4_openPlaces lk229 hx hb hml hown ht hK hZ hS hA 0 0 rfl rfl rfl ⟨rfl, rfl⟩ ⟨Nat.le_of_ble_eq_true rfl, Nat.le_of_ble_eq_true rfl⟩ rfl hl.1 rfl (Nat.le_of_ble_eq_true rfl) ⟨Nat.le_of_ble_eq_true rfl, Nat.le_of_ble_eq_true rfl⟩ ddX4_isConsistent_1 (fun r2 σ1 H locs hS h => ?_)
  refine lv_aload_n hx hb ddX4_isConsistent_4 rfl (lv_at hl 0 rfl) ?_
  refine k_VI (As := []) (rest := [.int r2]) (c_X4_openPlacesBySlots l X h) mf_X4_openPlacesBySlots lk230 hx hb hml hown ht hK hZ hS hA 0 0 rfl rfl rfl ⟨rfl, rfl⟩ ⟨Nat.le_of_ble_eq_true rfl, Nat.le_of_ble_eq_true rfl⟩ rfl hl.1 rfl (Nat.le_of_ble_eq_true rfl) ⟨Nat.le_of_ble_eq_true rfl, Nat.le_of_ble_eq_true rfl⟩ ddX4_isConsistent_5 (fun r4 σ3 H locs hS h => ?_)
  refine lv_icmp_eq (tgt := 13) hx hb ddX4_isConsistent_8 (by decide) (fun c5 => ?_) (fun c5 => ?_)
  · replace h := h.1 c5
    refine lv_iconst (v := (0 : Int32)) hx hb ddX4_isConsistent_13 (by decide) ?_
    refine lv_istore_n (lv' := [(1, .int (0 : Int32)), (0, .ref (ga X 0))]) hx hb ddX4_isConsistent_14 rfl hl (by decide) rfl (fun ls hl => ?_)
    obtain ⟨n, h⟩ := h
    exact hL15 n _ _ _ _ _ hS (lv_sub hl [1, 0] rfl) h
  · replace h := h.2 c5
    refine lv_iconst (v := (0 : Int32)) hx hb ddX4_isConsistent_11 (by decide) ?_
    exact k_zret hx hb hr hlocks hK hS rfl h ddX4_isConsistent_12
