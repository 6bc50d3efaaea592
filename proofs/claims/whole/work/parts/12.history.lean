set_option maxHeartbeats 4000000 in
set_option maxRecDepth 100000 in
theorem c_X1_size (l : Launch) (X : GX) {σ : Mem} {K : Int32 → Mem → Prop} (h : wp_X1_size σ K) : MI l X yX1_size cX1_size 1 ((Option.some Jvm.ClassFile.FieldType.int)) ({ frames := 0, cells := 0, slots := 0, locals := 0 } : Room) [.ref (ga X 4)] σ K := by
  refine ent_met (QQ := fun A => va_Qi K (BW X A) A) (by decide) (Nat.le_of_ble_eq_true rfl) ?_
  intro p e s m args below meth c A ls hx hb hr hlocks hml hown ht hK hZ hA hS hl
  have hown : s.vm.findClass "GuardRoster$History" = some m.cls := hown
  have hl : lv_has ls 1 [(0, .ref (ga X 4))] := hl
  unfold wp_X1_size at h
  refine lv_aload_n hx hb ddX1_size_0 rfl (lv_at hl 0 rfl) ?_
  refine get_4_2 hx hb hown ht hK hS lk56 ddX1_size_1 ?_
  exact k_iret hx hb hr hlocks hK hS h ddX1_size_4

set_option maxHeartbeats 4000000 in
set_option maxRecDepth 100000 in
theorem c_X1_begin (l : Launch) (X : GX) {σ : Mem} {K : Mem → Prop} (h : wp_X1_begin σ K) : MV l X yX1_begin cX1_begin 2 ((Option.none : Option Jvm.ClassFile.FieldType)) ({ frames := 2, cells := 0, slots := 0, locals := 101 } : Room) [.ref (ga X 4), .ref (ga X 1)] σ K := by
  refine ent_met (QQ := fun A => va_Qv K (BW X A) A) (by decide) (Nat.le_of_ble_eq_true rfl) ?_
  intro p e s m args below meth c A ls hx hb hr hlocks hml hown ht hK hZ hA hS hl
  have hown : s.vm.findClass "GuardRoster$History" = some m.cls := hown
  have hl : lv_has ls 2 [(0, .ref (ga X 4)), (1, .ref (ga X 1))] := hl
  unfold wp_X1_begin at h
  refine lv_aload_n hx hb ddX1_begin_0 rfl (lv_at hl 0 rfl) ?_
  refine get_4_1 hx hb hown ht hK hS lk55 ddX1_begin_1 ?_
  refine lv_if_lt (tgt := 29) hx hb ddX1_begin_4 (by decide) (fun c1 => ?_) (fun c1 => ?_)
  · replace h := h.1 c1
    exact k_vret hx hb hr hlocks hK hS h ddX1_begin_29
  · replace h := h.2 c1
    refine lv_aload_n hx hb ddX1_begin_7 rfl (lv_at hl 0 rfl) ?_
    refine get_4_1 hx hb hown ht hK hS lk55 ddX1_begin_8 ?_
    refine lv_bipush (v := (9 : Int32)) hx hb ddX1_begin_11 (by decide) ?_
    refine lv_icmp_ge (tgt := 29) hx hb ddX1_begin_13 (by decide) (fun c2 => ?_) (fun c2 => ?_)
    · replace h := h.1 c2
      exact k_vret hx hb hr hlocks hK hS h ddX1_begin_29
    · replace h := h.2 c2
      refine lv_aload_n hx hb ddX1_begin_16 rfl (lv_at hl 1 rfl) ?_
      refine lv_aload_n hx hb ddX1_begin_17 rfl (lv_at hl 0 rfl) ?_
      refine get_4_0 hx hb hown ht hK hS lk54 ddX1_begin_18 ?_
      refine lv_aload_n hx hb ddX1_begin_21 rfl (lv_at hl 0 rfl) ?_
      refine get_4_1 hx hb hown ht hK hS lk55 ddX1_begin_22 ?_
      have c3 := rows9 h.1
      have c3i := h.1
      replace h := h.2
      rcases c3 with c3 | c3 | c3 | c3 | c3 | c3 | c3 | c3 | c3
      · replace h := h.1 c3
        refine aldr_5 hx hb hK hS 0 (by decide) (by rw [c3]; rfl) c3i ddX1_begin_25 ?_
        refine k_VV (As := [.ref (ga X 6)]) (rest := []) (c_X2_copyTo_6 l X h) mf_X2_copyTo lk487 hx hb hml hown ht hK hZ hS hA 1 1 rfl rfl rfl ⟨rfl, rfl⟩ ⟨Nat.le_of_ble_eq_true rfl, Nat.le_of_ble_eq_true rfl⟩ rfl hl.1 rfl (Nat.le_of_ble_eq_true rfl) ⟨Nat.le_of_ble_eq_true rfl, Nat.le_of_ble_eq_true rfl⟩ ddX1_begin_26 (fun σ4 H locs hS h => ?_)
        exact k_vret hx hb hr hlocks hK hS h ddX1_begin_29
      · replace h := h.2.1 c3
        refine aldr_5 hx hb hK hS 1 (by decide) (by rw [c3]; rfl) c3i ddX1_begin_25 ?_
        refine k_VV (As := [.ref (ga X 7)]) (rest := []) (c_X2_copyTo_7 l X h) mf_X2_copyTo lk487 hx hb hml hown ht hK hZ hS hA 1 1 rfl rfl rfl ⟨rfl, rfl⟩ ⟨Nat.le_of_ble_eq_true rfl, Nat.le_of_ble_eq_true rfl⟩ rfl hl.1 rfl (Nat.le_of_ble_eq_true rfl) ⟨Nat.le_of_ble_eq_true rfl, Nat.le_of_ble_eq_true rfl⟩ ddX1_begin_26 (fun σ5 H locs hS h => ?_)
        exact k_vret hx hb hr hlocks hK hS h ddX1_begin_29
      · replace h := h.2.2.1 c3
        refine aldr_5 hx hb hK hS 2 (by decide) (by rw [c3]; rfl) c3i ddX1_begin_25 ?_
        refine k_VV (As := [.ref (ga X 8)]) (rest := []) (c_X2_copyTo_8 l X h) mf_X2_copyTo lk487 hx hb hml hown ht hK hZ hS hA 1 1 rfl rfl rfl ⟨rfl, rfl⟩ ⟨Nat.le_of_ble_eq_true rfl, Nat.le_of_ble_eq_true rfl⟩ rfl hl.1 rfl (Nat.le_of_ble_eq_true rfl) ⟨Nat.le_of_ble_eq_true rfl, Nat.le_of_ble_eq_true rfl⟩ ddX1_begin_26 (fun σ6 H locs hS h => ?_)
        exact k_vret hx hb hr hlocks hK hS h ddX1_begin_29
      · replace h := h.2.2.2.1 c3
        refine aldr_5 hx hb hK hS 3 (by decide) (by rw [c3]; rfl) c3i ddX1_begin_25 ?_
        refine k_VV (As := [.ref (ga X 9)]) (rest := []) (c_X2_copyTo_9 l X h) mf_X2_copyTo lk487 hx hb hml hown ht hK hZ hS hA 1 1 rfl rfl rfl ⟨rfl, rfl⟩ ⟨Nat.le_of_ble_eq_true rfl, Nat.le_of_ble_eq_true rfl⟩ rfl hl.1 rfl (Nat.le_of_ble_eq_true rfl) ⟨Nat.le_of_ble_eq_true rfl, Nat.le_of_ble_eq_true rfl⟩ ddX1_begin_26 (fun σ7 H locs hS h => ?_)
        exact k_vret hx hb hr hlocks hK hS h ddX1_begin_29
      · replace h := h.2.2.2.2.1 c3
        refine aldr_5 hx hb hK hS 4 (by decide) (by rw [c3]; rfl) c3i ddX1_begin_25 ?_
        refine k_VV (As := [.ref (ga X 10)]) (rest := []) (c_X2_copyTo_10 l X h) mf_X2_copyTo lk487 hx hb hml hown ht hK hZ hS hA 1 1 rfl rfl rfl ⟨rfl, rfl⟩ ⟨Nat.le_of_ble_eq_true rfl, Nat.le_of_ble_eq_true rfl⟩ rfl hl.1 rfl (Nat.le_of_ble_eq_true rfl) ⟨Nat.le_of_ble_eq_true rfl, Nat.le_of_ble_eq_true rfl⟩ ddX1_begin_26 (fun σ8 H locs hS h => ?_)
        exact k_vret hx hb hr hlocks hK hS h ddX1_begin_29
      · replace h := h.2.2.2.2.2.1 c3
        refine aldr_5 hx hb hK hS 5 (by decide) (by rw [c3]; rfl) c3i ddX1_begin_25 ?_
        refine k_VV (As := [.ref (ga X 11)]) (rest := []) (c_X2_copyTo_11 l X h) mf_X2_copyTo lk487 hx hb hml hown ht hK hZ hS hA 1 1 rfl rfl rfl ⟨rfl, rfl⟩ ⟨Nat.le_of_ble_eq_true rfl, Nat.le_of_ble_eq_true rfl⟩ rfl hl.1 rfl (Nat.le_of_ble_eq_true rfl) ⟨Nat.le_of_ble_eq_true rfl, Nat.le_of_ble_eq_true rfl⟩ ddX1_begin_26 (fun σ9 H locs hS h => ?_)
        exact k_vret hx hb hr hlocks hK hS h ddX1_begin_29
      · replace h := h.2.2.2.2.2.2.1 c3
        refine aldr_5 hx hb hK hS 6 (by decide) (by rw [c3]; rfl) c3i ddX1_begin_25 ?_
        refine k_VV (As := [.ref (ga X 12)]) (rest := []) (c_X2_copyTo_12 l X h) mf_X2_copyTo lk487 hx hb hml hown ht hK hZ hS hA 1 1 rfl rfl rfl ⟨rfl, rfl⟩ ⟨Nat.le_of_ble_eq_true rfl, Nat.le_of_ble_eq_true rfl⟩ rfl hl.1 rfl (Nat.le_of_ble_eq_true rfl) ⟨Nat.le_of_ble_eq_true rfl, Nat.le_of_ble_eq_true rfl⟩ ddX1_begin_26 (fun σ10 H locs hS h => ?_)
        exact k_vret hx hb hr hlocks hK hS h ddX1_begin_29
      · replace h := h.2.2.2.2.2.2.2.1 c3
        refine aldr_5 hx hb hK hS 7 (by decide) (by rw [c3]; rfl) c3i ddX1_begin_25 ?_
        refine k_VV (As := [.ref (ga X 13)]) (rest := []) (c_X2_copyTo_13 l X h) mf_X2_copyTo lk487 hx hb hml hown ht hK hZ hS hA 1 1 rfl rfl rfl ⟨rfl, rfl⟩ ⟨Nat.le_of_ble_eq_true rfl, Nat.le_of_ble_eq_true rfl⟩ rfl hl.1 rfl (Nat.le_of_ble_eq_true rfl) ⟨Nat.le_of_ble_eq_true rfl, Nat.le_of_ble_eq_true rfl⟩ ddX1_begin_26 (fun σ11 H locs hS h => ?_)
        exact k_vret hx hb hr hlocks hK hS h ddX1_begin_29
      · replace h := h.2.2.2.2.2.2.2.2 c3
        refine aldr_5 hx hb hK hS 8 (by decide) (by rw [c3]; rfl) c3i ddX1_begin_25 ?_
        refine k_VV (As := [.ref (ga X 14)]) (rest := []) (c_X2_copyTo_14 l X h) mf_X2_copyTo lk487 hx hb hml hown ht hK hZ hS hA 1 1 rfl rfl rfl ⟨rfl, rfl⟩ ⟨Nat.le_of_ble_eq_true rfl, Nat.le_of_ble_eq_true rfl⟩ rfl hl.1 rfl (Nat.le_of_ble_eq_true rfl) ⟨Nat.le_of_ble_eq_true rfl, Nat.le_of_ble_eq_true rfl⟩ ddX1_begin_26 (fun σ12 H locs hS h => ?_)
        exact k_vret hx hb hr hlocks hK hS h ddX1_begin_29

set_option maxHeartbeats 4000000 in
set_option maxRecDepth 100000 in
theorem c_X1_end (l : Launch) (X : GX) {σ : Mem} {K : Mem → Prop} (h : wp_X1_end σ K) : MV l X yX1_end cX1_end 1 ((Option.none : Option Jvm.ClassFile.FieldType)) ({ frames := 1, cells := 0, slots := 0, locals := 21 } : Room) [.ref (ga X 4)] σ K := by
  refine ent_met (QQ := fun A => va_Qv K (BW X A) A) (by decide) (Nat.le_of_ble_eq_true rfl) ?_
  intro p e s m args below meth c A ls hx hb hr hlocks hml hown ht hK hZ hA hS hl
  have hown : s.vm.findClass "GuardRoster$History" = some m.cls := hown
  have hl : lv_has ls 1 [(0, .ref (ga X 4))] := hl
  have hJ22 : ∀ (y1 : Int32) (σ : Mem) (H : Heap) (locs : List Loc) (ls : Array Slot), WS X A s.heap σ H locs → lv_has ls 1 [(0, .ref (ga X 4))] → wpJ_X1_end_22 K y1 σ → WV X K p l e ({ frames := 1, cells := 0, slots := 0, locals := 21 } : Room) s m args below meth c A H locs (F0 m 22 ls [.int y1, .ref (ga X 4)]) := by
    intro y1 σ H locs ls hS hl h
    unfold wpJ_X1_end_22 at h
    refine put_4_1 hx hb hown ht hK hS lk55 ddX1_end_22 (fun H locs hS => ?_)
    obtain ⟨σ2, eσ2⟩ : ∃ y : Mem, y = (st σ 4 1 y1) := ⟨_, rfl⟩
    rw [← eσ2] at hS
    replace h := h σ2 eσ2
    refine lv_aload_n hx hb ddX1_end_25 rfl (lv_at hl 0 rfl) ?_
    refine lv_bipush (v := (8 : Int32)) hx hb ddX1_end_26 (by decide) ?_
    refine lv_aload_n hx hb ddX1_end_28 rfl (lv_at hl 0 rfl) ?_
    refine get_4_2 hx hb hown ht hK hS lk56 ddX1_end_29 ?_
    refine lv_iconst (v := (1 : Int32)) hx hb ddX1_end_32 (by decide) ?_
    refine lv_iadd hx hb ddX1_end_33 ?_
    refine k_min hx hb (hml.trans hl.1.symm) hown ht lk492 (Nat.le_of_ble_eq_true rfl) (Nat.le_of_ble_eq_true rfl) ddX1_end_34 ?_
    refine put_4_2 hx hb hown ht hK hS lk56 ddX1_end_37 (fun H locs hS => ?_)
    obtain ⟨σ3, eσ3⟩ : ∃ y : Mem, y = (st σ2 4 2 (if ((σ2 4 2) + (1 : Int32)) < (8 : Int32) then ((σ2 4 2) + (1 : Int32)) else (8 : Int32))) := ⟨_, rfl⟩
    rw [← eσ3] at hS
    replace h := h σ3 eσ3
    exact k_vret hx hb hr hlocks hK hS h ddX1_end_40
  unfold wp_X1_end at h
  refine lv_aload_n hx hb ddX1_end_0 rfl (lv_at hl 0 rfl) ?_
  refine lv_aload_n hx hb ddX1_end_1 rfl (lv_at hl 0 rfl) ?_
  refine get_4_1 hx hb hown ht hK hS lk55 ddX1_end_2 ?_
  refine lv_iconst (v := (1 : Int32)) hx hb ddX1_end_5 (by decide) ?_
  refine lv_iadd hx hb ddX1_end_6 ?_
  refine lv_bipush (v := (9 : Int32)) hx hb ddX1_end_7 (by decide) ?_
  refine lv_icmp_ge (tgt := 21) hx hb ddX1_end_9 (by decide) (fun c1 => ?_) (fun c1 => ?_)
  · replace h := h.1 c1
    refine lv_iconst (v := (0 : Int32)) hx hb ddX1_end_21 (by decide) ?_
    exact hJ22 _ _ _ _ _ hS (lv_sub hl [0] rfl) h
  · replace h := h.2 c1
    refine lv_aload_n hx hb ddX1_end_12 rfl (lv_at hl 0 rfl) ?_
    refine get_4_1 hx hb hown ht hK hS lk55 ddX1_end_13 ?_
    refine lv_iconst (v := (1 : Int32)) hx hb ddX1_end_16 (by decide) ?_
    refine lv_iadd hx hb ddX1_end_17 ?_
    refine lv_goto (tgt := 22) hx hb ddX1_end_18 (by decide) ?_
    exact hJ22 _ _ _ _ _ hS (lv_sub hl [0] rfl) h

set_option maxHeartbeats 4000000 in
set_option maxRecDepth 100000 in
theorem c_X1_keep (l : Launch) (X : GX) {σ : Mem} {K : Mem → Prop} (h : wp_X1_keep σ K) : MV l X yX1_keep cX1_keep 2 ((Option.none : Option Jvm.ClassFile.FieldType)) ({ frames := 3, cells := 0, slots := 0, locals := 122 } : Room) [.ref (ga X 4), .ref (ga X 1)] σ K := by
  refine ent_met (QQ := fun A => va_Qv K (BW X A) A) (by decide) (Nat.le_of_ble_eq_true rfl) ?_
  intro p e s m args below meth c A ls hx hb hr hlocks hml hown ht hK hZ hA hS hl
  have hown : s.vm.findClass "GuardRoster$History" = some m.cls := hown
  have hl : lv_has ls 2 [(0, .ref (ga X 4)), (1, .ref (ga X 1))] := hl
  unfold wp_X1_keep at h
  refine lv_aload_n hx hb ddX1_keep_0 rfl (lv_at hl 0 rfl) ?_
  refine lv_aload_n hx hb ddX1_keep_1 rfl (lv_at hl 1 rfl) ?_
  refine k_VV (As := [.ref (ga X 1)]) (rest := []) (c_X1_begin l X h) mf_X1_begin lk483 hx hb hml hown ht hK hZ hS hA 4 2 rfl rfl rfl ⟨rfl, rfl⟩ ⟨Nat.le_of_ble_eq_true rfl, Nat.le_of_ble_eq_true rfl⟩ rfl hl.1 rfl (Nat.le_of_ble_eq_true rfl) ⟨Nat.le_of_ble_eq_true rfl, Nat.le_of_ble_eq_true rfl⟩ ddX1_keep_2 (fun σ1 H locs hS h => ?_)
  refine lv_aload_n hx hb ddX1_keep_5 rfl (lv_at hl 0 rfl) ?_
  refine k_VV (As := []) (rest := []) (c_X1_end l X h) mf_X1_end lk488 hx hb hml hown ht hK hZ hS hA 4 2 rfl rfl rfl ⟨rfl, rfl⟩ ⟨Nat.le_of_ble_eq_true rfl, Nat.le_of_ble_eq_true rfl⟩ rfl hl.1 rfl (Nat.le_of_ble_eq_true rfl) ⟨Nat.le_of_ble_eq_true rfl, Nat.le_of_ble_eq_true rfl⟩ ddX1_keep_6 (fun σ2 H locs hS h => ?_)
  exact k_vret hx hb hr hlocks hK hS h ddX1_keep_9

set_option maxHeartbeats 4000000 in
set_option maxRecDepth 100000 in
theorem c_X1_backOut (l : Launch) (X : GX) {σ : Mem} {K : Mem → Prop} (h : wp_X1_backOut σ K) : MV l X yX1_backOut cX1_backOut 2 ((Option.none : Option Jvm.ClassFile.FieldType)) ({ frames := 2, cells := 0, slots := 0, locals := 101 } : Room) [.ref (ga X 4), .ref (ga X 1)] σ K := by
  refine ent_met (QQ := fun A => va_Qv K (BW X A) A) (by decide) (Nat.le_of_ble_eq_true rfl) ?_
  intro p e s m args below meth c A ls hx hb hr hlocks hml hown ht hK hZ hA hS hl
  have hown : s.vm.findClass "GuardRoster$History" = some m.cls := hown
  have hl : lv_has ls 2 [(0, .ref (ga X 4)), (1, .ref (ga X 1))] := hl
  unfold wp_X1_backOut at h
  refine lv_aload_n hx hb ddX1_backOut_0 rfl (lv_at hl 0 rfl) ?_
  refine get_4_1 hx hb hown ht hK hS lk55 ddX1_backOut_1 ?_
  refine lv_if_lt (tgt := 29) hx hb ddX1_backOut_4 (by decide) (fun c1 => ?_) (fun c1 => ?_)
  · replace h := h.1 c1
    exact k_vret hx hb hr hlocks hK hS h ddX1_backOut_29
  · replace h := h.2 c1
    refine lv_aload_n hx hb ddX1_backOut_7 rfl (lv_at hl 0 rfl) ?_
    refine get_4_1 hx hb hown ht hK hS lk55 ddX1_backOut_8 ?_
    refine lv_bipush (v := (9 : Int32)) hx hb ddX1_backOut_11 (by decide) ?_
    refine lv_icmp_ge (tgt := 29) hx hb ddX1_backOut_13 (by decide) (fun c2 => ?_) (fun c2 => ?_)
    · replace h := h.1 c2
      exact k_vret hx hb hr hlocks hK hS h ddX1_backOut_29
    · replace h := h.2 c2
      refine lv_aload_n hx hb ddX1_backOut_16 rfl (lv_at hl 1 rfl) ?_
      refine lv_aload_n hx hb ddX1_backOut_17 rfl (lv_at hl 0 rfl) ?_
      refine get_4_0 hx hb hown ht hK hS lk54 ddX1_backOut_18 ?_
      refine lv_aload_n hx hb ddX1_backOut_21 rfl (lv_at hl 0 rfl) ?_
      refine get_4_1 hx hb hown ht hK hS lk55 ddX1_backOut_22 ?_
      have c3 := rows9 h.1
      have c3i := h.1
      replace h := h.2
      rcases c3 with c3 | c3 | c3 | c3 | c3 | c3 | c3 | c3 | c3
      · replace h := h.1 c3
        refine aldr_5 hx hb hK hS 0 (by decide) (by rw [c3]; rfl) c3i ddX1_backOut_25 ?_
        refine k_VV (As := [.ref (ga X 6)]) (rest := []) (c_X2_copyFrom_6 l X h) mf_X2_copyFrom lk1070 hx hb hml hown ht hK hZ hS hA 1 1 rfl rfl rfl ⟨rfl, rfl⟩ ⟨Nat.le_of_ble_eq_true rfl, Nat.le_of_ble_eq_true rfl⟩ rfl hl.1 rfl (Nat.le_of_ble_eq_true rfl) ⟨Nat.le_of_ble_eq_true rfl, Nat.le_of_ble_eq_true rfl⟩ ddX1_backOut_26 (fun σ4 H locs hS h => ?_)
        exact k_vret hx hb hr hlocks hK hS h ddX1_backOut_29
      · replace h := h.2.1 c3
        refine aldr_5 hx hb hK hS 1 (by decide) (by rw [c3]; rfl) c3i ddX1_backOut_25 ?_
        refine k_VV (As := [.ref (ga X 7)]) (rest := []) (c_X2_copyFrom_7 l X h) mf_X2_copyFrom lk1070 hx hb hml hown ht hK hZ hS hA 1 1 rfl rfl rfl ⟨rfl, rfl⟩ ⟨Nat.le_of_ble_eq_true rfl, Nat.le_of_ble_eq_true rfl⟩ rfl hl.1 rfl (Nat.le_of_ble_eq_true rfl) ⟨Nat.le_of_ble_eq_true rfl, Nat.le_of_ble_eq_true rfl⟩ ddX1_backOut_26 (fun σ5 H locs hS h => ?_)
        exact k_vret hx hb hr hlocks hK hS h ddX1_backOut_29
      · replace h := h.2.2.1 c3
        refine aldr_5 hx hb hK hS 2 (by decide) (by rw [c3]; rfl) c3i ddX1_backOut_25 ?_
        refine k_VV (As := [.ref (ga X 8)]) (rest := []) (c_X2_copyFrom_8 l X h) mf_X2_copyFrom lk1070 hx hb hml hown ht hK hZ hS hA 1 1 rfl rfl rfl ⟨rfl, rfl⟩ ⟨Nat.le_of_ble_eq_true rfl, Nat.le_of_ble_eq_true rfl⟩ rfl hl.1 rfl (Nat.le_of_ble_eq_true rfl) ⟨Nat.le_of_ble_eq_true rfl, Nat.le_of_ble_eq_true rfl⟩ ddX1_backOut_26 (fun σ6 H locs hS h => ?_)
        exact k_vret hx hb hr hlocks hK hS h ddX1_backOut_29
      · replace h := h.2.2.2.1 c3
        refine aldr_5 hx hb hK hS 3 (by decide) (by rw [c3]; rfl) c3i ddX1_backOut_25 ?_
        refine k_VV (As := [.ref (ga X 9)]) (rest := []) (c_X2_copyFrom_9 l X h) mf_X2_copyFrom lk1070 hx hb hml hown ht hK hZ hS hA 1 1 rfl rfl rfl ⟨rfl, rfl⟩ ⟨Nat.le_of_ble_eq_true rfl, Nat.le_of_ble_eq_true rfl⟩ rfl hl.1 rfl (Nat.le_of_ble_eq_true rfl) ⟨Nat.le_of_ble_eq_true rfl, Nat.le_of_ble_eq_true rfl⟩ ddX1_backOut_26 (fun σ7 H locs hS h => ?_)
        exact k_vret hx hb hr hlocks hK hS h ddX1_backOut_29
      · replace h := h.2.2.2.2.1 c3
        refine aldr_5 hx hb hK hS 4 (by decide) (by rw [c3]; rfl) c3i ddX1_backOut_25 ?_
        refine k_VV (As := [.ref (ga X 10)]) (rest := []) (c_X2_copyFrom_10 l X h) mf_X2_copyFrom lk1070 hx hb hml hown ht hK hZ hS hA 1 1 rfl rfl rfl ⟨rfl, rfl⟩ ⟨Nat.le_of_ble_eq_true rfl, Nat.le_of_ble_eq_true rfl⟩ rfl hl.1 rfl (Nat.le_of_ble_eq_true rfl) ⟨Nat.le_of_ble_eq_true rfl, Nat.le_of_ble_eq_true rfl⟩ ddX1_backOut_26 (fun σ8 H locs hS h => ?_)
        exact k_vret hx hb hr hlocks hK hS h ddX1_backOut_29
      · replace h := h.2.2.2.2.2.1 c3
        refine aldr_5 hx hb hK hS 5 (by decide) (by rw [c3]; rfl) c3i ddX1_backOut_25 ?_
        refine k_VV (As := [.ref (ga X 11)]) (rest := []) (c_X2_copyFrom_11 l X h) mf_X2_copyFrom lk1070 hx hb hml hown ht hK hZ hS hA 1 1 rfl rfl rfl ⟨rfl, rfl⟩ ⟨Nat.le_of_ble_eq_true rfl, Nat.le_of_ble_eq_true rfl⟩ rfl hl.1 rfl (Nat.le_of_ble_eq_true rfl) ⟨Nat.le_of_ble_eq_true rfl, Nat.le_of_ble_eq_true rfl⟩ ddX1_backOut_26 (fun σ9 H locs hS h => ?_)
        exact k_vret hx hb hr hlocks hK hS h ddX1_backOut_29
      · replace h := h.2.2.2.2.2.2.1 c3
        refine aldr_5 hx hb hK hS 6 (by decide) (by rw [c3]; rfl) c3i ddX1_backOut_25 ?_
        refine k_VV (As := [.ref (ga X 12)]) (rest := []) (c_X2_copyFrom_12 l X h) mf_X2_copyFrom lk1070 hx hb hml hown ht hK hZ hS hA 1 1 rfl rfl rfl ⟨rfl, rfl⟩ ⟨Nat.le_of_ble_eq_true rfl, Nat.le_of_ble_eq_true rfl⟩ rfl hl.1 rfl (Nat.le_of_ble_eq_true rfl) ⟨Nat.le_of_ble_eq_true rfl, Nat.le_of_ble_eq_true rfl⟩ ddX1_backOut_26 (fun σ10 H locs hS h => ?_)
        exact k_vret hx hb hr hlocks hK hS h ddX1_backOut_29
      · replace h := h.2.2.2.2.2.2.2.1 c3
        refine aldr_5 hx hb hK hS 7 (by decide) (by rw [c3]; rfl) c3i ddX1_backOut_25 ?_
        refine k_VV (As := [.ref (ga X 13)]) (rest := []) (c_X2_copyFrom_13 l X h) mf_X2_copyFrom lk1070 hx hb hml hown ht hK hZ hS hA 1 1 rfl rfl rfl ⟨rfl, rfl⟩ ⟨Nat.le_of_ble_eq_true rfl, Nat.le_of_ble_eq_true rfl⟩ rfl hl.1 rfl (Nat.le_of_ble_eq_true rfl) ⟨Nat.le_of_ble_eq_true rfl, Nat.le_of_ble_eq_true rfl⟩ ddX1_backOut_26 (fun σ11 H locs hS h => ?_)
        exact k_vret hx hb hr hlocks hK hS h ddX1_backOut_29
      · replace h := h.2.2.2.2.2.2.2.2 c3
        refine aldr_5 hx hb hK hS 8 (by decide) (by rw [c3]; rfl) c3i ddX1_backOut_25 ?_
        refine k_VV (As := [.ref (ga X 14)]) (rest := []) (c_X2_copyFrom_14 l X h) mf_X2_copyFrom lk1070 hx hb hml hown ht hK hZ hS hA 1 1 rfl rfl rfl ⟨rfl, rfl⟩ ⟨Nat.le_of_ble_eq_true rfl, Nat.le_of_ble_eq_true rfl⟩ rfl hl.1 rfl (Nat.le_of_ble_eq_true rfl) ⟨Nat.le_of_ble_eq_true rfl, Nat.le_of_ble_eq_true rfl⟩ ddX1_backOut_26 (fun σ12 H locs hS h => ?_)
        exact k_vret hx hb hr hlocks hK hS h ddX1_backOut_29

set_option maxHeartbeats 4000000 in
set_option maxRecDepth 100000 in
theorem c_X1_takeBack (l : Launch) (X : GX) {σ : Mem} {K : Mem → Prop} (h : wp_X1_takeBack σ K) : MV l X yX1_takeBack cX1_takeBack 2 ((Option.none : Option Jvm.ClassFile.FieldType)) ({ frames := 3, cells := 0, slots := 0, locals := 122 } : Room) [.ref (ga X 4), .ref (ga X 1)] σ K := by
  refine ent_met (QQ := fun A => va_Qv K (BW X A) A) (by decide) (Nat.le_of_ble_eq_true rfl) ?_
  intro p e s m args below meth c A ls hx hb hr hlocks hml hown ht hK hZ hA hS hl
  have hown : s.vm.findClass "GuardRoster$History" = some m.cls := hown
  have hl : lv_has ls 2 [(0, .ref (ga X 4)), (1, .ref (ga X 1))] := hl
  have hJ36 : ∀ (y1 : Int32) (σ : Mem) (H : Heap) (locs : List Loc) (ls : Array Slot), WS X A s.heap σ H locs → lv_has ls 2 [(0, .ref (ga X 4)), (1, .ref (ga X 1))] → wpJ_X1_takeBack_36 K y1 σ → WV X K p l e ({ frames := 3, cells := 0, slots := 0, locals := 122 } : Room) s m args below meth c A H locs (F0 m 36 ls [.int y1, .ref (ga X 4)]) := by
    intro y1 σ H locs ls hS hl h
    unfold wpJ_X1_takeBack_36 at h
    refine put_4_1 hx hb hown ht hK hS lk55 ddX1_takeBack_36 (fun H locs hS => ?_)
    obtain ⟨σ4, eσ4⟩ : ∃ y : Mem, y = (st σ 4 1 y1) := ⟨_, rfl⟩
    rw [← eσ4] at hS
    replace h := h σ4 eσ4
    refine lv_aload_n hx hb ddX1_takeBack_39 rfl (lv_at hl 0 rfl) ?_
    refine lv_aload_n hx hb ddX1_takeBack_40 rfl (lv_at hl 1 rfl) ?_
    refine k_VV (As := [.ref (ga X 1)]) (rest := []) (c_X1_backOut l X h) mf_X1_backOut lk1104 hx hb hml hown ht hK hZ hS hA 4 2 rfl rfl rfl ⟨rfl, rfl⟩ ⟨Nat.le_of_ble_eq_true rfl, Nat.le_of_ble_eq_true rfl⟩ rfl hl.1 rfl (Nat.le_of_ble_eq_true rfl) ⟨Nat.le_of_ble_eq_true rfl, Nat.le_of_ble_eq_true rfl⟩ ddX1_takeBack_41 (fun σ5 H locs hS h => ?_)
    exact k_vret hx hb hr hlocks hK hS h ddX1_takeBack_44
  unfold wp_X1_takeBack at h
  refine lv_aload_n hx hb ddX1_takeBack_0 rfl (lv_at hl 0 rfl) ?_
  refine get_4_2 hx hb hown ht hK hS lk56 ddX1_takeBack_1 ?_
  refine lv_if_le (tgt := 44) hx hb ddX1_takeBack_4 (by decide) (fun c1 => ?_) (fun c1 => ?_)
  · replace h := h.1 c1
    exact k_vret hx hb hr hlocks hK hS h ddX1_takeBack_44
  · replace h := h.2 c1
    refine lv_aload_n hx hb ddX1_takeBack_7 rfl (lv_at hl 0 rfl) ?_
    refine lv_dup hx hb ddX1_takeBack_8 rfl ?_
    refine get_4_2 hx hb hown ht hK hS lk56 ddX1_takeBack_9 ?_
    refine lv_iconst (v := (1 : Int32)) hx hb ddX1_takeBack_12 (by decide) ?_
    refine lv_isub hx hb ddX1_takeBack_13 ?_
    refine put_4_2 hx hb hown ht hK hS lk56 ddX1_takeBack_14 (fun H locs hS => ?_)
    obtain ⟨σ2, eσ2⟩ : ∃ y : Mem, y = (st σ 4 2 ((σ 4 2) - (1 : Int32))) := ⟨_, rfl⟩
    rw [← eσ2] at hS
    replace h := h σ2 eσ2
    refine lv_aload_n hx hb ddX1_takeBack_17 rfl (lv_at hl 0 rfl) ?_
    refine lv_aload_n hx hb ddX1_takeBack_18 rfl (lv_at hl 0 rfl) ?_
    refine get_4_1 hx hb hown ht hK hS lk55 ddX1_takeBack_19 ?_
    refine lv_if_le (tgt := 34) hx hb ddX1_takeBack_22 (by decide) (fun c3 => ?_) (fun c3 => ?_)
    · replace h := h.1 c3
      refine lv_bipush (v := (8 : Int32)) hx hb ddX1_takeBack_34 (by decide) ?_
      exact hJ36 _ _ _ _ _ hS (lv_sub hl [0, 1] rfl) h
    · replace h := h.2 c3
      refine lv_aload_n hx hb ddX1_takeBack_25 rfl (lv_at hl 0 rfl) ?_
      refine get_4_1 hx hb hown ht hK hS lk55 ddX1_takeBack_26 ?_
      refine lv_iconst (v := (1 : Int32)) hx hb ddX1_takeBack_29 (by decide) ?_
      refine lv_isub hx hb ddX1_takeBack_30 ?_
      refine lv_goto (tgt := 36) hx hb ddX1_takeBack_31 (by decide) ?_
      exact hJ36 _ _ _ _ _ hS (lv_sub hl [0, 1] rfl) h

set_option maxHeartbeats 4000000 in
set_option maxRecDepth 100000 in
theorem c_X1_forget (l : Launch) (X : GX) {σ : Mem} {K : Mem → Prop} (h : wp_X1_forget σ K) : MV l X yX1_forget cX1_forget 1 ((Option.none : Option Jvm.ClassFile.FieldType)) ({ frames := 0, cells := 0, slots := 0, locals := 0 } : Room) [.ref (ga X 4)] σ K := by
  refine ent_met (QQ := fun A => va_Qv K (BW X A) A) (by decide) (Nat.le_of_ble_eq_true rfl) ?_
  intro p e s m args below meth c A ls hx hb hr hlocks hml hown ht hK hZ hA hS hl
  have hown : s.vm.findClass "GuardRoster$History" = some m.cls := hown
  have hl : lv_has ls 1 [(0, .ref (ga X 4))] := hl
  unfold wp_X1_forget at h
  refine lv_aload_n hx hb ddX1_forget_0 rfl (lv_at hl 0 rfl) ?_
  refine lv_iconst (v := (0 : Int32)) hx hb ddX1_forget_1 (by decide) ?_
  refine put_4_2 hx hb hown ht hK hS lk56 ddX1_forget_2 (fun H locs hS => ?_)
  obtain ⟨σ1, eσ1⟩ : ∃ y : Mem, y = (st σ 4 2 (0 : Int32)) := ⟨_, rfl⟩
  rw [← eσ1] at hS
  replace h := h σ1 eσ1
  exact k_vret hx hb hr hlocks hK hS h ddX1_forget_5
