set_option maxHeartbeats 4000000 in
set_option maxRecDepth 100000 in
theorem c_L_addGate (l : Launch) (X : GX) (hfl : l.stackTraces = false) {x1 : Int32} {σ : Mem} {K : Int32 → Mem → Prop} (h : wp_L_addGate x1 σ K) : MH l X yL_addGate cL_addGate 4 ((Option.some Jvm.ClassFile.FieldType.int)) [(0, 9, 12, 13), (0, 9, 15, 15)] ({ frames := 8, cells := 1, slots := 6, locals := 164 } : Room) 1 6 [.ref (ga X 0), .int x1, .ref (ga X 34)] σ K := by
  refine entH (by decide) (Nat.le_of_ble_eq_true rfl) ?_
  intro p e s m args below meth c A ls hx hb hr hlocks hml hown ht hK hZ hA hS hl hY htab
  have hown : s.vm.findClass "GuardRosterLaw" = some m.cls := hown
  have hl : lv_has ls 4 [(0, .ref (ga X 0)), (1, .int x1), (2, .ref (ga X 34))] := hl
  unfold wp_L_addGate at h
  refine lv_aload_n hx hb ddL_addGate_0 rfl (lv_at hl 2 rfl) ?_
  refine lv_iconst (v := (0 : Int32)) hx hb ddL_addGate_1 (by decide) ?_
  refine lv_aload_n hx hb ddL_addGate_2 rfl (lv_at hl 0 rfl) ?_
  refine lv_iload_n hx hb ddL_addGate_3 rfl (lv_at hl 1 rfl) ?_
  refine kh_VI (As := [.int x1]) (rest := [.int (0 : Int32), .ref (ga X 34)]) (c_X4_addGate l X hfl h) mf_X4_addGate lk400 hx hb hml hown ht hK hZ hS hA hY 0 0 rfl rfl rfl ⟨rfl, rfl⟩ ⟨Nat.le_of_ble_eq_true rfl, Nat.le_of_ble_eq_true rfl⟩ rfl hl.1 rfl (Nat.le_of_ble_eq_true rfl) ⟨Nat.le_of_ble_eq_true rfl, Nat.le_of_ble_eq_true rfl⟩ ddL_addGate_4 (fun E9 σ9 H locs ce q9 hS h hce hcv hcl => ?_) (fun r3 σ1 H locs hS h => ?_)
  · rcases h with ⟨rfl, h⟩ | ⟨rfl, h⟩
    · refine vx_catch (name := "java/lang/IllegalArgumentException") (E := "java/lang/IllegalArgumentException") hown (tableOf []) ⟨0, 9, 12, 13⟩ (tableOf [(0, 9, 15, 15)]) (htab.trans rfl) (fun _ h9 => absurd h9 List.not_mem_nil) (by decide) (by decide) (ht _ lk398) (castable_use (hY.1 _ (by decide +kernel))) hce hcv hcl ?_
      refine lv_astore_n (lv' := [(3, .ref q9), (0, .ref (ga X 0)), (1, .int x1), (2, .ref (ga X 34))]) hx hb ddL_addGate_12 rfl hl (by decide) rfl (fun ls hl => ?_)
      refine lv_iconst (v := (1 : Int32)) hx hb ddL_addGate_13 (by decide) ?_
      exact kw_iret hx hb hr hlocks hK hS h ddL_addGate_14 ⟨Nat.le_of_ble_eq_true rfl, Nat.le_of_ble_eq_true rfl⟩
    · refine vx_catch (name := "java/lang/IllegalStateException") (E := "java/lang/IllegalStateException") hown (tableOf [(0, 9, 12, 13)]) ⟨0, 9, 15, 15⟩ (tableOf []) (htab.trans rfl) (List.forall_mem_cons.mpr ⟨Or.inr ⟨by decide, "java/lang/IllegalArgumentException", ht _ lk398, hZ.2.2.2.2.2.2 ("java/lang/IllegalStateException", "java/lang/IllegalArgumentException") (by decide +kernel)⟩, fun _ h9 => absurd h9 List.not_mem_nil⟩) (by decide) (by decide) (ht _ lk399) (castable_use (hY.1 _ (by decide +kernel))) hce hcv hcl ?_
      refine lv_astore_n (lv' := [(3, .ref q9), (0, .ref (ga X 0)), (1, .int x1), (2, .ref (ga X 34))]) hx hb ddL_addGate_15 rfl hl (by decide) rfl (fun ls hl => ?_)
      refine lv_iconst (v := (2 : Int32)) hx hb ddL_addGate_16 (by decide) ?_
      exact kw_iret hx hb hr hlocks hK hS h ddL_addGate_17 ⟨Nat.le_of_ble_eq_true rfl, Nat.le_of_ble_eq_true rfl⟩
  · refine lv_i2l hx hb ddL_addGate_7 rfl ?_
    refine last_34 hx hb hK hS ddL_addGate_8 (fun H locs hS => ?_)
    obtain ⟨σ4, eσ4⟩ : ∃ y : Mem, y = (st σ1 34 0 r3) := ⟨_, rfl⟩
    rw [← eσ4] at hS
    replace h := h σ4 eσ4
    refine lv_goto (tgt := 18) hx hb ddL_addGate_9 (by decide) ?_
    refine lv_iconst (v := (0 : Int32)) hx hb ddL_addGate_18 (by decide) ?_
    exact kw_iret hx hb hr hlocks hK hS h ddL_addGate_19 ⟨Nat.le_of_ble_eq_true rfl, Nat.le_of_ble_eq_true rfl⟩

set_option maxHeartbeats 4000000 in
set_option maxRecDepth 100000 in
theorem c_L_addGuard (l : Launch) (X : GX) (hfl : l.stackTraces = false) {x1 : Int32} {σ : Mem} {K : Int32 → Mem → Prop} (h : wp_L_addGuard x1 σ K) : MH l X yL_addGuard cL_addGuard 4 ((Option.some Jvm.ClassFile.FieldType.int)) [(0, 9, 12, 13), (0, 9, 15, 15)] ({ frames := 8, cells := 1, slots := 6, locals := 164 } : Room) 1 6 [.ref (ga X 0), .int x1, .ref (ga X 34)] σ K := by
  refine entH (by decide) (Nat.le_of_ble_eq_true rfl) ?_
  intro p e s m args below meth c A ls hx hb hr hlocks hml hown ht hK hZ hA hS hl hY htab
  have hown : s.vm.findClass "GuardRosterLaw" = some m.cls := hown
  have hl : lv_has ls 4 [(0, .ref (ga X 0)), (1, .int x1), (2, .ref (ga X 34))] := hl
  unfold wp_L_addGuard at h
  refine lv_aload_n hx hb ddL_addGuard_0 rfl (lv_at hl 2 rfl) ?_
  refine lv_iconst (v := (0 : Int32)) hx hb ddL_addGuard_1 (by decide) ?_
  refine lv_aload_n hx hb ddL_addGuard_2 rfl (lv_at hl 0 rfl) ?_
  refine lv_iload_n hx hb ddL_addGuard_3 rfl (lv_at hl 1 rfl) ?_
  refine kh_VI (As := [.int x1]) (rest := [.int (0 : Int32), .ref (ga X 34)]) (c_X4_addGuard l X hfl h) mf_X4_addGuard lk502 hx hb hml hown ht hK hZ hS hA hY 0 0 rfl rfl rfl ⟨rfl, rfl⟩ ⟨Nat.le_of_ble_eq_true rfl, Nat.le_of_ble_eq_true rfl⟩ rfl hl.1 rfl (Nat.le_of_ble_eq_true rfl) ⟨Nat.le_of_ble_eq_true rfl, Nat.le_of_ble_eq_true rfl⟩ ddL_addGuard_4 (fun E9 σ9 H locs ce q9 hS h hce hcv hcl => ?_) (fun r3 σ1 H locs hS h => ?_)
  · rcases h with ⟨rfl, h⟩ | ⟨rfl, h⟩
    · refine vx_catch (name := "java/lang/IllegalArgumentException") (E := "java/lang/IllegalArgumentException") hown (tableOf []) ⟨0, 9, 12, 13⟩ (tableOf [(0, 9, 15, 15)]) (htab.trans rfl) (fun _ h9 => absurd h9 List.not_mem_nil) (by decide) (by decide) (ht _ lk398) (castable_use (hY.1 _ (by decide +kernel))) hce hcv hcl ?_
      refine lv_astore_n (lv' := [(3, .ref q9), (0, .ref (ga X 0)), (1, .int x1), (2, .ref (ga X 34))]) hx hb ddL_addGuard_12 rfl hl (by decide) rfl (fun ls hl => ?_)
      refine lv_iconst (v := (1 : Int32)) hx hb ddL_addGuard_13 (by decide) ?_
      exact kw_iret hx hb hr hlocks hK hS h ddL_addGuard_14 ⟨Nat.le_of_ble_eq_true rfl, Nat.le_of_ble_eq_true rfl⟩
    · refine vx_catch (name := "java/lang/IllegalStateException") (E := "java/lang/IllegalStateException") hown (tableOf [(0, 9, 12, 13)]) ⟨0, 9, 15, 15⟩ (tableOf []) (htab.trans rfl) (List.forall_mem_cons.mpr ⟨Or.inr ⟨by decide, "java/lang/IllegalArgumentException", ht _ lk398, hZ.2.2.2.2.2.2 ("java/lang/IllegalStateException", "java/lang/IllegalArgumentException") (by decide +kernel)⟩, fun _ h9 => absurd h9 List.not_mem_nil⟩) (by decide) (by decide) (ht _ lk399) (castable_use (hY.1 _ (by decide +kernel))) hce hcv hcl ?_
      refine lv_astore_n (lv' := [(3, .ref q9), (0, .ref (ga X 0)), (1, .int x1), (2, .ref (ga X 34))]) hx hb ddL_addGuard_15 rfl hl (by decide) rfl (fun ls hl => ?_)
      refine lv_iconst (v := (2 : Int32)) hx hb ddL_addGuard_16 (by decide) ?_
      exact kw_iret hx hb hr hlocks hK hS h ddL_addGuard_17 ⟨Nat.le_of_ble_eq_true rfl, Nat.le_of_ble_eq_true rfl⟩
  · refine lv_i2l hx hb ddL_addGuard_7 rfl ?_
    refine last_34 hx hb hK hS ddL_addGuard_8 (fun H locs hS => ?_)
    obtain ⟨σ4, eσ4⟩ : ∃ y : Mem, y = (st σ1 34 0 r3) := ⟨_, rfl⟩
    rw [← eσ4] at hS
    replace h := h σ4 eσ4
    refine lv_goto (tgt := 18) hx hb ddL_addGuard_9 (by decide) ?_
    refine lv_iconst (v := (0 : Int32)) hx hb ddL_addGuard_18 (by decide) ?_
    exact kw_iret hx hb hr hlocks hK hS h ddL_addGuard_19 ⟨Nat.le_of_ble_eq_true rfl, Nat.le_of_ble_eq_true rfl⟩

set_option maxHeartbeats 4000000 in
set_option maxRecDepth 100000 in
theorem c_L_neededRank (l : Launch) (X : GX) (hfl : l.stackTraces = false) {x1 : Int32} {σ : Mem} {K : Int32 → Mem → Prop} (h : wp_L_neededRank x1 σ K) : MH l X yL_neededRank cL_neededRank 4 ((Option.some Jvm.ClassFile.FieldType.int)) [(0, 9, 12, 23)] ({ frames := 7, cells := 1, slots := 6, locals := 111 } : Room) 1 6 [.ref (ga X 0), .int x1, .ref (ga X 34)] σ K := by
  refine entH (by decide) (Nat.le_of_ble_eq_true rfl) ?_
  intro p e s m args below meth c A ls hx hb hr hlocks hml hown ht hK hZ hA hS hl hY htab
  have hown : s.vm.findClass "GuardRosterLaw" = some m.cls := hown
  have hl : lv_has ls 4 [(0, .ref (ga X 0)), (1, .int x1), (2, .ref (ga X 34))] := hl
  unfold wp_L_neededRank at h
  refine lv_aload_n hx hb ddL_neededRank_0 rfl (lv_at hl 2 rfl) ?_
  refine lv_iconst (v := (0 : Int32)) hx hb ddL_neededRank_1 (by decide) ?_
  refine lv_aload_n hx hb ddL_neededRank_2 rfl (lv_at hl 0 rfl) ?_
  refine lv_iload_n hx hb ddL_neededRank_3 rfl (lv_at hl 1 rfl) ?_
  refine kh_VI (As := [.int x1]) (rest := [.int (0 : Int32), .ref (ga X 34)]) (c_X4_neededRank l X hfl h) mf_X4_neededRank lk538 hx hb hml hown ht hK hZ hS hA hY 0 0 rfl rfl rfl ⟨rfl, rfl⟩ ⟨Nat.le_of_ble_eq_true rfl, Nat.le_of_ble_eq_true rfl⟩ rfl hl.1 rfl (Nat.le_of_ble_eq_true rfl) ⟨Nat.le_of_ble_eq_true rfl, Nat.le_of_ble_eq_true rfl⟩ ddL_neededRank_4 (fun E9 σ9 H locs ce q9 hS h hce hcv hcl => ?_) (fun r3 σ1 H locs hS h => ?_)
  · rcases h with ⟨rfl, h⟩
    · refine vx_catch (name := "java/lang/IndexOutOfBoundsException") (E := "java/lang/IndexOutOfBoundsException") hown (tableOf []) ⟨0, 9, 12, 23⟩ (tableOf []) (htab.trans rfl) (fun _ h9 => absurd h9 List.not_mem_nil) (by decide) (by decide) (ht _ lk517) (castable_use (hY.1 _ (by decide +kernel))) hce hcv hcl ?_
      refine lv_astore_n (lv' := [(3, .ref q9), (0, .ref (ga X 0)), (1, .int x1), (2, .ref (ga X 34))]) hx hb ddL_neededRank_12 rfl hl (by decide) rfl (fun ls hl => ?_)
      refine lv_iconst (v := (1 : Int32)) hx hb ddL_neededRank_13 (by decide) ?_
      exact kw_iret hx hb hr hlocks hK hS h ddL_neededRank_14 ⟨Nat.le_of_ble_eq_true rfl, Nat.le_of_ble_eq_true rfl⟩
  · refine lv_i2l hx hb ddL_neededRank_7 rfl ?_
    refine last_34 hx hb hK hS ddL_neededRank_8 (fun H locs hS => ?_)
    obtain ⟨σ4, eσ4⟩ : ∃ y : Mem, y = (st σ1 34 0 r3) := ⟨_, rfl⟩
    rw [← eσ4] at hS
    replace h := h σ4 eσ4
    refine lv_goto (tgt := 15) hx hb ddL_neededRank_9 (by decide) ?_
    refine lv_iconst (v := (0 : Int32)) hx hb ddL_neededRank_15 (by decide) ?_
    exact kw_iret hx hb hr hlocks hK hS h ddL_neededRank_16 ⟨Nat.le_of_ble_eq_true rfl, Nat.le_of_ble_eq_true rfl⟩

set_option maxHeartbeats 4000000 in
set_option maxRecDepth 100000 in
theorem c_L_rank (l : Launch) (X : GX) (hfl : l.stackTraces = false) {x1 : Int32} {σ : Mem} {K : Int32 → Mem → Prop} (h : wp_L_rank x1 σ K) : MH l X yL_rank cL_rank 4 ((Option.some Jvm.ClassFile.FieldType.int)) [(0, 9, 12, 23)] ({ frames := 8, cells := 1, slots := 6, locals := 132 } : Room) 1 6 [.ref (ga X 0), .int x1, .ref (ga X 34)] σ K := by
  refine entH (by decide) (Nat.le_of_ble_eq_true rfl) ?_
  intro p e s m args below meth c A ls hx hb hr hlocks hml hown ht hK hZ hA hS hl hY htab
  have hown : s.vm.findClass "GuardRosterLaw" = some m.cls := hown
  have hl : lv_has ls 4 [(0, .ref (ga X 0)), (1, .int x1), (2, .ref (ga X 34))] := hl
  unfold wp_L_rank at h
  refine lv_aload_n hx hb ddL_rank_0 rfl (lv_at hl 2 rfl) ?_
  refine lv_iconst (v := (0 : Int32)) hx hb ddL_rank_1 (by decide) ?_
  refine lv_aload_n hx hb ddL_rank_2 rfl (lv_at hl 0 rfl) ?_
  refine lv_iload_n hx hb ddL_rank_3 rfl (lv_at hl 1 rfl) ?_
  refine kh_VI (As := [.int x1]) (rest := [.int (0 : Int32), .ref (ga X 34)]) (c_X4_rank l X hfl h) mf_X4_rank lk548 hx hb hml hown ht hK hZ hS hA hY 0 0 rfl rfl rfl ⟨rfl, rfl⟩ ⟨Nat.le_of_ble_eq_true rfl, Nat.le_of_ble_eq_true rfl⟩ rfl hl.1 rfl (Nat.le_of_ble_eq_true rfl) ⟨Nat.le_of_ble_eq_true rfl, Nat.le_of_ble_eq_true rfl⟩ ddL_rank_4 (fun E9 σ9 H locs ce q9 hS h hce hcv hcl => ?_) (fun r3 σ1 H locs hS h => ?_)
  · rcases h with ⟨rfl, h⟩
    · refine vx_catch (name := "java/lang/IndexOutOfBoundsException") (E := "java/lang/IndexOutOfBoundsException") hown (tableOf []) ⟨0, 9, 12, 23⟩ (tableOf []) (htab.trans rfl) (fun _ h9 => absurd h9 List.not_mem_nil) (by decide) (by decide) (ht _ lk517) (castable_use (hY.1 _ (by decide +kernel))) hce hcv hcl ?_
      refine lv_astore_n (lv' := [(3, .ref q9), (0, .ref (ga X 0)), (1, .int x1), (2, .ref (ga X 34))]) hx hb ddL_rank_12 rfl hl (by decide) rfl (fun ls hl => ?_)
      refine lv_iconst (v := (1 : Int32)) hx hb ddL_rank_13 (by decide) ?_
      exact kw_iret hx hb hr hlocks hK hS h ddL_rank_14 ⟨Nat.le_of_ble_eq_true rfl, Nat.le_of_ble_eq_true rfl⟩
  · refine lv_i2l hx hb ddL_rank_7 rfl ?_
    refine last_34 hx hb hK hS ddL_rank_8 (fun H locs hS => ?_)
    obtain ⟨σ4, eσ4⟩ : ∃ y : Mem, y = (st σ1 34 0 r3) := ⟨_, rfl⟩
    rw [← eσ4] at hS
    replace h := h σ4 eσ4
    refine lv_goto (tgt := 15) hx hb ddL_rank_9 (by decide) ?_
    refine lv_iconst (v := (0 : Int32)) hx hb ddL_rank_15 (by decide) ?_
    exact kw_iret hx hb hr hlocks hK hS h ddL_rank_16 ⟨Nat.le_of_ble_eq_true rfl, Nat.le_of_ble_eq_true rfl⟩

set_option maxHeartbeats 4000000 in
set_option maxRecDepth 100000 in
theorem c_L_faints (l : Launch) (X : GX) (hfl : l.stackTraces = false) {x1 : Int32} {σ : Mem} {K : Int32 → Mem → Prop} (h : wp_L_faints x1 σ K) : MH l X yL_faints cL_faints 4 ((Option.some Jvm.ClassFile.FieldType.int)) [(0, 9, 12, 23)] ({ frames := 8, cells := 1, slots := 6, locals := 132 } : Room) 1 6 [.ref (ga X 0), .int x1, .ref (ga X 34)] σ K := by
  refine entH (by decide) (Nat.le_of_ble_eq_true rfl) ?_
  intro p e s m args below meth c A ls hx hb hr hlocks hml hown ht hK hZ hA hS hl hY htab
  have hown : s.vm.findClass "GuardRosterLaw" = some m.cls := hown
  have hl : lv_has ls 4 [(0, .ref (ga X 0)), (1, .int x1), (2, .ref (ga X 34))] := hl
  unfold wp_L_faints at h
  refine lv_aload_n hx hb ddL_faints_0 rfl (lv_at hl 2 rfl) ?_
  refine lv_iconst (v := (0 : Int32)) hx hb ddL_faints_1 (by decide) ?_
  refine lv_aload_n hx hb ddL_faints_2 rfl (lv_at hl 0 rfl) ?_
  refine lv_iload_n hx hb ddL_faints_3 rfl (lv_at hl 1 rfl) ?_
  refine kh_VI (As := [.int x1]) (rest := [.int (0 : Int32), .ref (ga X 34)]) (c_X4_faints l X hfl h) mf_X4_faints lk562 hx hb hml hown ht hK hZ hS hA hY 0 0 rfl rfl rfl ⟨rfl, rfl⟩ ⟨Nat.le_of_ble_eq_true rfl, Nat.le_of_ble_eq_true rfl⟩ rfl hl.1 rfl (Nat.le_of_ble_eq_true rfl) ⟨Nat.le_of_ble_eq_true rfl, Nat.le_of_ble_eq_true rfl⟩ ddL_faints_4 (fun E9 σ9 H locs ce q9 hS h hce hcv hcl => ?_) (fun r3 σ1 H locs hS h => ?_)
  · rcases h with ⟨rfl, h⟩
    · refine vx_catch (name := "java/lang/IndexOutOfBoundsException") (E := "java/lang/IndexOutOfBoundsException") hown (tableOf []) ⟨0, 9, 12, 23⟩ (tableOf []) (htab.trans rfl) (fun _ h9 => absurd h9 List.not_mem_nil) (by decide) (by decide) (ht _ lk517) (castable_use (hY.1 _ (by decide +kernel))) hce hcv hcl ?_
      refine lv_astore_n (lv' := [(3, .ref q9), (0, .ref (ga X 0)), (1, .int x1), (2, .ref (ga X 34))]) hx hb ddL_faints_12 rfl hl (by decide) rfl (fun ls hl => ?_)
      refine lv_iconst (v := (1 : Int32)) hx hb ddL_faints_13 (by decide) ?_
      exact kw_iret hx hb hr hlocks hK hS h ddL_faints_14 ⟨Nat.le_of_ble_eq_true rfl, Nat.le_of_ble_eq_true rfl⟩
  · refine lv_i2l hx hb ddL_faints_7 rfl ?_
    refine last_34 hx hb hK hS ddL_faints_8 (fun H locs hS => ?_)
    obtain ⟨σ4, eσ4⟩ : ∃ y : Mem, y = (st σ1 34 0 r3) := ⟨_, rfl⟩
    rw [← eσ4] at hS
    replace h := h σ4 eσ4
    refine lv_goto (tgt := 15) hx hb ddL_faints_9 (by decide) ?_
    refine lv_iconst (v := (0 : Int32)) hx hb ddL_faints_15 (by decide) ?_
    exact kw_iret hx hb hr hlocks hK hS h ddL_faints_16 ⟨Nat.le_of_ble_eq_true rfl, Nat.le_of_ble_eq_true rfl⟩

set_option maxHeartbeats 4000000 in
set_option maxRecDepth 100000 in
theorem c_L_assign (l : Launch) (X : GX) (hfl : l.stackTraces = false) {x1 x2 x3 : Int32} {σ : Mem} {K : Int32 → Mem → Prop} (h : wp_L_assign x1 x2 x3 σ K) : MH l X yL_assign cL_assign 6 ((Option.some Jvm.ClassFile.FieldType.int)) [(0, 12, 15, 23), (0, 12, 19, 15), (0, 12, 23, 35)] ({ frames := 8, cells := 1, slots := 6, locals := 166 } : Room) 1 6 [.ref (ga X 0), .int x1, .int x2, .int x3, .ref (ga X 34)] σ K := by
  refine entH (by decide) (Nat.le_of_ble_eq_true rfl) ?_
  intro p e s m args below meth c A ls hx hb hr hlocks hml hown ht hK hZ hA hS hl hY htab
  have hown : s.vm.findClass "GuardRosterLaw" = some m.cls := hown
  have hl : lv_has ls 6 [(0, .ref (ga X 0)), (1, .int x1), (2, .int x2), (3, .int x3), (4, .ref (ga X 34))] := hl
  unfold wp_L_assign at h
  refine lv_aload hx hb ddL_assign_0 (lv_at hl 4 rfl) ?_
  refine lv_iconst (v := (0 : Int32)) hx hb ddL_assign_2 (by decide) ?_
  refine lv_aload_n hx hb ddL_assign_3 rfl (lv_at hl 0 rfl) ?_
  refine lv_iload_n hx hb ddL_assign_4 rfl (lv_at hl 1 rfl) ?_
  refine lv_iload_n hx hb ddL_assign_5 rfl (lv_at hl 2 rfl) ?_
  refine lv_iload_n hx hb ddL_assign_6 rfl (lv_at hl 3 rfl) ?_
  refine kh_VI (As := [.int x1, .int x2, .int x3]) (rest := [.int (0 : Int32), .ref (ga X 34)]) (c_X4_assign l X hfl h) mf_X4_assign lk574 hx hb hml hown ht hK hZ hS hA hY 0 0 rfl rfl rfl ⟨rfl, rfl⟩ ⟨Nat.le_of_ble_eq_true rfl, Nat.le_of_ble_eq_true rfl⟩ rfl hl.1 rfl (Nat.le_of_ble_eq_true rfl) ⟨Nat.le_of_ble_eq_true rfl, Nat.le_of_ble_eq_true rfl⟩ ddL_assign_7 (fun E9 σ9 H locs ce q9 hS h hce hcv hcl => ?_) (fun r3 σ1 H locs hS h => ?_)
  · rcases h with ⟨rfl, h⟩ | ⟨rfl, h⟩ | ⟨rfl, h⟩
    · refine vx_catch (name := "java/lang/IndexOutOfBoundsException") (E := "java/lang/IndexOutOfBoundsException") hown (tableOf []) ⟨0, 12, 15, 23⟩ (tableOf [(0, 12, 19, 15), (0, 12, 23, 35)]) (htab.trans rfl) (fun _ h9 => absurd h9 List.not_mem_nil) (by decide) (by decide) (ht _ lk517) (castable_use (hY.1 _ (by decide +kernel))) hce hcv hcl ?_
      refine lv_astore (lv' := [(5, .ref q9), (0, .ref (ga X 0)), (1, .int x1), (2, .int x2), (3, .int x3), (4, .ref (ga X 34))]) hx hb ddL_assign_15 hl (by decide) rfl (fun ls hl => ?_)
      refine lv_iconst (v := (1 : Int32)) hx hb ddL_assign_17 (by decide) ?_
      exact kw_iret hx hb hr hlocks hK hS h ddL_assign_18 ⟨Nat.le_of_ble_eq_true rfl, Nat.le_of_ble_eq_true rfl⟩
    · refine vx_catch (name := "java/lang/IllegalStateException") (E := "java/lang/IllegalStateException") hown (tableOf [(0, 12, 15, 23)]) ⟨0, 12, 19, 15⟩ (tableOf [(0, 12, 23, 35)]) (htab.trans rfl) (List.forall_mem_cons.mpr ⟨Or.inr ⟨by decide, "java/lang/IndexOutOfBoundsException", ht _ lk517, hZ.2.2.2.2.2.2 ("java/lang/IllegalStateException", "java/lang/IndexOutOfBoundsException") (by decide +kernel)⟩, fun _ h9 => absurd h9 List.not_mem_nil⟩) (by decide) (by decide) (ht _ lk399) (castable_use (hY.1 _ (by decide +kernel))) hce hcv hcl ?_
      refine lv_astore (lv' := [(5, .ref q9), (0, .ref (ga X 0)), (1, .int x1), (2, .int x2), (3, .int x3), (4, .ref (ga X 34))]) hx hb ddL_assign_19 hl (by decide) rfl (fun ls hl => ?_)
      refine lv_iconst (v := (2 : Int32)) hx hb ddL_assign_21 (by decide) ?_
      exact kw_iret hx hb hr hlocks hK hS h ddL_assign_22 ⟨Nat.le_of_ble_eq_true rfl, Nat.le_of_ble_eq_true rfl⟩
    · refine vx_catch (name := "java/lang/UnsupportedOperationException") (E := "java/lang/UnsupportedOperationException") hown (tableOf [(0, 12, 15, 23), (0, 12, 19, 15)]) ⟨0, 12, 23, 35⟩ (tableOf []) (htab.trans rfl) (List.forall_mem_cons.mpr ⟨Or.inr ⟨by decide, "java/lang/IndexOutOfBoundsException", ht _ lk517, hZ.2.2.2.2.2.2 ("java/lang/UnsupportedOperationException", "java/lang/IndexOutOfBoundsException") (by decide +kernel)⟩, List.forall_mem_cons.mpr ⟨Or.inr ⟨by decide, "java/lang/IllegalStateException", ht _ lk399, hZ.2.2.2.2.2.2 ("java/lang/UnsupportedOperationException", "java/lang/IllegalStateException") (by decide +kernel)⟩, fun _ h9 => absurd h9 List.not_mem_nil⟩⟩) (by decide) (by decide) (ht _ lk573) (castable_use (hY.1 _ (by decide +kernel))) hce hcv hcl ?_
      refine lv_astore (lv' := [(5, .ref q9), (0, .ref (ga X 0)), (1, .int x1), (2, .int x2), (3, .int x3), (4, .ref (ga X 34))]) hx hb ddL_assign_23 hl (by decide) rfl (fun ls hl => ?_)
      refine lv_iconst (v := (3 : Int32)) hx hb ddL_assign_25 (by decide) ?_
      exact kw_iret hx hb hr hlocks hK hS h ddL_assign_26 ⟨Nat.le_of_ble_eq_true rfl, Nat.le_of_ble_eq_true rfl⟩
  · refine lv_i2l hx hb ddL_assign_10 rfl ?_
    refine last_34 hx hb hK hS ddL_assign_11 (fun H locs hS => ?_)
    obtain ⟨σ4, eσ4⟩ : ∃ y : Mem, y = (st σ1 34 0 r3) := ⟨_, rfl⟩
    rw [← eσ4] at hS
    replace h := h σ4 eσ4
    refine lv_goto (tgt := 27) hx hb ddL_assign_12 (by decide) ?_
    refine lv_iconst (v := (0 : Int32)) hx hb ddL_assign_27 (by decide) ?_
    exact kw_iret hx hb hr hlocks hK hS h ddL_assign_28 ⟨Nat.le_of_ble_eq_true rfl, Nat.le_of_ble_eq_true rfl⟩

set_option maxHeartbeats 4000000 in
set_option maxRecDepth 100000 in
theorem c_L_canAssign (l : Launch) (X : GX) (hfl : l.stackTraces = false) {x1 x2 x3 : Int32} {σ : Mem} {K : Int32 → Mem → Prop} (h : wp_L_canAssign x1 x2 x3 σ K) : MH l X yL_canAssign cL_canAssign 6 ((Option.some Jvm.ClassFile.FieldType.int)) [(0, 19, 22, 23)] ({ frames := 7, cells := 1, slots := 6, locals := 113 } : Room) 1 6 [.ref (ga X 0), .int x1, .int x2, .int x3, .ref (ga X 34)] σ K := by
  refine entH (by decide) (Nat.le_of_ble_eq_true rfl) ?_
  intro p e s m args below meth c A ls hx hb hr hlocks hml hown ht hK hZ hA hS hl hY htab
  have hown : s.vm.findClass "GuardRosterLaw" = some m.cls := hown
  have hl : lv_has ls 6 [(0, .ref (ga X 0)), (1, .int x1), (2, .int x2), (3, .int x3), (4, .ref (ga X 34))] := hl
  unfold wp_L_canAssign at h
  refine lv_aload hx hb ddL_canAssign_0 (lv_at hl 4 rfl) ?_
  refine lv_iconst (v := (0 : Int32)) hx hb ddL_canAssign_2 (by decide) ?_
  refine lv_aload_n hx hb ddL_canAssign_3 rfl (lv_at hl 0 rfl) ?_
  refine lv_iload_n hx hb ddL_canAssign_4 rfl (lv_at hl 1 rfl) ?_
  refine lv_iload_n hx hb ddL_canAssign_5 rfl (lv_at hl 2 rfl) ?_
  refine lv_iload_n hx hb ddL_canAssign_6 rfl (lv_at hl 3 rfl) ?_
  refine kh_VI (As := [.int x1, .int x2, .int x3]) (rest := [.int (0 : Int32), .ref (ga X 34)]) (c_X4_canAssign l X hfl h) mf_X4_canAssign lk610 hx hb hml hown ht hK hZ hS hA hY 0 0 rfl rfl rfl ⟨rfl, rfl⟩ ⟨Nat.le_of_ble_eq_true rfl, Nat.le_of_ble_eq_true rfl⟩ rfl hl.1 rfl (Nat.le_of_ble_eq_true rfl) ⟨Nat.le_of_ble_eq_true rfl, Nat.le_of_ble_eq_true rfl⟩ ddL_canAssign_7 (fun E9 σ9 H locs ce q9 hS h hce hcv hcl => ?_) (fun r3 σ1 H locs hS h => ?_)
  · rcases h with ⟨rfl, h⟩
    · refine vx_catch (name := "java/lang/IndexOutOfBoundsException") (E := "java/lang/IndexOutOfBoundsException") hown (tableOf []) ⟨0, 19, 22, 23⟩ (tableOf []) (htab.trans rfl) (fun _ h9 => absurd h9 List.not_mem_nil) (by decide) (by decide) (ht _ lk517) (castable_use (hY.1 _ (by decide +kernel))) hce hcv hcl ?_
      refine lv_astore (lv' := [(5, .ref q9), (0, .ref (ga X 0)), (1, .int x1), (2, .int x2), (3, .int x3), (4, .ref (ga X 34))]) hx hb ddL_canAssign_22 hl (by decide) rfl (fun ls hl => ?_)
      refine lv_iconst (v := (1 : Int32)) hx hb ddL_canAssign_24 (by decide) ?_
      exact kw_iret hx hb hr hlocks hK hS h ddL_canAssign_25 ⟨Nat.le_of_ble_eq_true rfl, Nat.le_of_ble_eq_true rfl⟩
  · refine lv_if_eq (tgt := 17) hx hb ddL_canAssign_10 (by decide) (fun c4 => ?_) (fun c4 => ?_)
    · replace h := h.1 c4
      refine lv_lconst (v := (0 : Int32).toInt64) hx hb ddL_canAssign_17 (by decide) ?_
      refine last_34 hx hb hK hS ddL_canAssign_18 (fun H locs hS => ?_)
      obtain ⟨σ5, eσ5⟩ : ∃ y : Mem, y = (st σ1 34 0 (0 : Int32)) := ⟨_, rfl⟩
      rw [← eσ5] at hS
      replace h := h σ5 eσ5
      refine lv_goto (tgt := 26) hx hb ddL_canAssign_19 (by decide) ?_
      refine lv_iconst (v := (0 : Int32)) hx hb ddL_canAssign_26 (by decide) ?_
      exact kw_iret hx hb hr hlocks hK hS h ddL_canAssign_27 ⟨Nat.le_of_ble_eq_true rfl, Nat.le_of_ble_eq_true rfl⟩
    · replace h := h.2 c4
      refine lv_lconst (v := (1 : Int32).toInt64) hx hb ddL_canAssign_13 (by decide) ?_
      refine lv_goto (tgt := 18) hx hb ddL_canAssign_14 (by decide) ?_
      refine last_34 hx hb hK hS ddL_canAssign_18 (fun H locs hS => ?_)
      obtain ⟨σ6, eσ6⟩ : ∃ y : Mem, y = (st σ1 34 0 (1 : Int32)) := ⟨_, rfl⟩
      rw [← eσ6] at hS
      replace h := h σ6 eσ6
      refine lv_goto (tgt := 26) hx hb ddL_canAssign_19 (by decide) ?_
      refine lv_iconst (v := (0 : Int32)) hx hb ddL_canAssign_26 (by decide) ?_
      exact kw_iret hx hb hr hlocks hK hS h ddL_canAssign_27 ⟨Nat.le_of_ble_eq_true rfl, Nat.le_of_ble_eq_true rfl⟩

set_option maxHeartbeats 4000000 in
set_option maxRecDepth 100000 in
theorem c_L_remove (l : Launch) (X : GX) (hfl : l.stackTraces = false) {x1 x2 : Int32} {σ : Mem} {K : Int32 → Mem → Prop} (h : wp_L_remove x1 x2 σ K) : MH l X yL_remove cL_remove 5 ((Option.some Jvm.ClassFile.FieldType.int)) [(0, 10, 13, 23), (0, 10, 17, 15), (0, 10, 21, 45)] ({ frames := 8, cells := 1, slots := 6, locals := 166 } : Room) 1 6 [.ref (ga X 0), .int x1, .int x2, .ref (ga X 34)] σ K := by
  refine entH (by decide) (Nat.le_of_ble_eq_true rfl) ?_
  intro p e s m args below meth c A ls hx hb hr hlocks hml hown ht hK hZ hA hS hl hY htab
  have hown : s.vm.findClass "GuardRosterLaw" = some m.cls := hown
  have hl : lv_has ls 5 [(0, .ref (ga X 0)), (1, .int x1), (2, .int x2), (3, .ref (ga X 34))] := hl
  unfold wp_L_remove at h
  refine lv_aload_n hx hb ddL_remove_0 rfl (lv_at hl 3 rfl) ?_
  refine lv_iconst (v := (0 : Int32)) hx hb ddL_remove_1 (by decide) ?_
  refine lv_aload_n hx hb ddL_remove_2 rfl (lv_at hl 0 rfl) ?_
  refine lv_iload_n hx hb ddL_remove_3 rfl (lv_at hl 1 rfl) ?_
  refine lv_iload_n hx hb ddL_remove_4 rfl (lv_at hl 2 rfl) ?_
  refine kh_VI (As := [.int x1, .int x2]) (rest := [.int (0 : Int32), .ref (ga X 34)]) (c_X4_remove l X hfl h) mf_X4_remove lk618 hx hb hml hown ht hK hZ hS hA hY 0 0 rfl rfl rfl ⟨rfl, rfl⟩ ⟨Nat.le_of_ble_eq_true rfl, Nat.le_of_ble_eq_true rfl⟩ rfl hl.1 rfl (Nat.le_of_ble_eq_true rfl) ⟨Nat.le_of_ble_eq_true rfl, Nat.le_of_ble_eq_true rfl⟩ ddL_remove_5 (fun E9 σ9 H locs ce q9 hS h hce hcv hcl => ?_) (fun r3 σ1 H locs hS h => ?_)
  · rcases h with ⟨rfl, h⟩ | ⟨rfl, h⟩ | ⟨rfl, h⟩
    · refine vx_catch (name := "java/lang/IndexOutOfBoundsException") (E := "java/lang/IndexOutOfBoundsException") hown (tableOf []) ⟨0, 10, 13, 23⟩ (tableOf [(0, 10, 17, 15), (0, 10, 21, 45)]) (htab.trans rfl) (fun _ h9 => absurd h9 List.not_mem_nil) (by decide) (by decide) (ht _ lk517) (castable_use (hY.1 _ (by decide +kernel))) hce hcv hcl ?_
      refine lv_astore (lv' := [(4, .ref q9), (0, .ref (ga X 0)), (1, .int x1), (2, .int x2), (3, .ref (ga X 34))]) hx hb ddL_remove_13 hl (by decide) rfl (fun ls hl => ?_)
      refine lv_iconst (v := (1 : Int32)) hx hb ddL_remove_15 (by decide) ?_
      exact kw_iret hx hb hr hlocks hK hS h ddL_remove_16 ⟨Nat.le_of_ble_eq_true rfl, Nat.le_of_ble_eq_true rfl⟩
    · refine vx_catch (name := "java/lang/IllegalStateException") (E := "java/lang/IllegalStateException") hown (tableOf [(0, 10, 13, 23)]) ⟨0, 10, 17, 15⟩ (tableOf [(0, 10, 21, 45)]) (htab.trans rfl) (List.forall_mem_cons.mpr ⟨Or.inr ⟨by decide, "java/lang/IndexOutOfBoundsException", ht _ lk517, hZ.2.2.2.2.2.2 ("java/lang/IllegalStateException", "java/lang/IndexOutOfBoundsException") (by decide +kernel)⟩, fun _ h9 => absurd h9 List.not_mem_nil⟩) (by decide) (by decide) (ht _ lk399) (castable_use (hY.1 _ (by decide +kernel))) hce hcv hcl ?_
      refine lv_astore (lv' := [(4, .ref q9), (0, .ref (ga X 0)), (1, .int x1), (2, .int x2), (3, .ref (ga X 34))]) hx hb ddL_remove_17 hl (by decide) rfl (fun ls hl => ?_)
      refine lv_iconst (v := (2 : Int32)) hx hb ddL_remove_19 (by decide) ?_
      exact kw_iret hx hb hr hlocks hK hS h ddL_remove_20 ⟨Nat.le_of_ble_eq_true rfl, Nat.le_of_ble_eq_true rfl⟩
    · refine vx_catch (name := "java/util/NoSuchElementException") (E := "java/util/NoSuchElementException") hown (tableOf [(0, 10, 13, 23), (0, 10, 17, 15)]) ⟨0, 10, 21, 45⟩ (tableOf []) (htab.trans rfl) (List.forall_mem_cons.mpr ⟨Or.inr ⟨by decide, "java/lang/IndexOutOfBoundsException", ht _ lk517, hZ.2.2.2.2.2.2 ("java/util/NoSuchElementException", "java/lang/IndexOutOfBoundsException") (by decide +kernel)⟩, List.forall_mem_cons.mpr ⟨Or.inr ⟨by decide, "java/lang/IllegalStateException", ht _ lk399, hZ.2.2.2.2.2.2 ("java/util/NoSuchElementException", "java/lang/IllegalStateException") (by decide +kernel)⟩, fun _ h9 => absurd h9 List.not_mem_nil⟩⟩) (by decide) (by decide) (ht _ lk617) (castable_use (hY.1 _ (by decide +kernel))) hce hcv hcl ?_
      refine lv_astore (lv' := [(4, .ref q9), (0, .ref (ga X 0)), (1, .int x1), (2, .int x2), (3, .ref (ga X 34))]) hx hb ddL_remove_21 hl (by decide) rfl (fun ls hl => ?_)
      refine lv_iconst (v := (3 : Int32)) hx hb ddL_remove_23 (by decide) ?_
      exact kw_iret hx hb hr hlocks hK hS h ddL_remove_24 ⟨Nat.le_of_ble_eq_true rfl, Nat.le_of_ble_eq_true rfl⟩
  · refine lv_i2l hx hb ddL_remove_8 rfl ?_
    refine last_34 hx hb hK hS ddL_remove_9 (fun H locs hS => ?_)
    obtain ⟨σ4, eσ4⟩ : ∃ y : Mem, y = (st σ1 34 0 r3) := ⟨_, rfl⟩
    rw [← eσ4] at hS
    replace h := h σ4 eσ4
    refine lv_goto (tgt := 25) hx hb ddL_remove_10 (by decide) ?_
    refine lv_iconst (v := (0 : Int32)) hx hb ddL_remove_25 (by decide) ?_
    exact kw_iret hx hb hr hlocks hK hS h ddL_remove_26 ⟨Nat.le_of_ble_eq_true rfl, Nat.le_of_ble_eq_true rfl⟩

set_option maxHeartbeats 4000000 in
set_option maxRecDepth 100000 in
theorem c_L_exchange (l : Launch) (X : GX) (hfl : l.stackTraces = false) {x1 x2 x3 x4 : Int32} {σ : Mem} {K : Int32 → Mem → Prop} (h : wp_L_exchange x1 x2 x3 x4 σ K) : MH l X yL_exchange cL_exchange 7 ((Option.some Jvm.ClassFile.FieldType.int)) [(0, 14, 17, 23), (0, 14, 21, 13), (0, 14, 25, 15), (0, 14, 29, 45), (0, 14, 33, 35)] ({ frames := 8, cells := 1, slots := 6, locals := 169 } : Room) 1 6 [.ref (ga X 0), .int x1, .int x2, .int x3, .int x4, .ref (ga X 34)] σ K := by
  refine entH (by decide) (Nat.le_of_ble_eq_true rfl) ?_
  intro p e s m args below meth c A ls hx hb hr hlocks hml hown ht hK hZ hA hS hl hY htab
  have hown : s.vm.findClass "GuardRosterLaw" = some m.cls := hown
  have hl : lv_has ls 7 [(0, .ref (ga X 0)), (1, .int x1), (2, .int x2), (3, .int x3), (4, .int x4), (5, .ref (ga X 34))] := hl
  unfold wp_L_exchange at h
  refine lv_aload hx hb ddL_exchange_0 (lv_at hl 5 rfl) ?_
  refine lv_iconst (v := (0 : Int32)) hx hb ddL_exchange_2 (by decide) ?_
  refine lv_aload_n hx hb ddL_exchange_3 rfl (lv_at hl 0 rfl) ?_
  refine lv_iload_n hx hb ddL_exchange_4 rfl (lv_at hl 1 rfl) ?_
  refine lv_iload_n hx hb ddL_exchange_5 rfl (lv_at hl 2 rfl) ?_
  refine lv_iload_n hx hb ddL_exchange_6 rfl (lv_at hl 3 rfl) ?_
  refine lv_iload hx hb ddL_exchange_7 (lv_at hl 4 rfl) ?_
  refine kh_VI (As := [.int x1, .int x2, .int x3, .int x4]) (rest := [.int (0 : Int32), .ref (ga X 34)]) (c_X4_exchange l X hfl h) mf_X4_exchange lk630 hx hb hml hown ht hK hZ hS hA hY 0 0 rfl rfl rfl ⟨rfl, rfl⟩ ⟨Nat.le_of_ble_eq_true rfl, Nat.le_of_ble_eq_true rfl⟩ rfl hl.1 rfl (Nat.le_of_ble_eq_true rfl) ⟨Nat.le_of_ble_eq_true rfl, Nat.le_of_ble_eq_true rfl⟩ ddL_exchange_9 (fun E9 σ9 H locs ce q9 hS h hce hcv hcl => ?_) (fun r3 σ1 H locs hS h => ?_)
  · rcases h with ⟨rfl, h⟩ | ⟨rfl, h⟩ | ⟨rfl, h⟩ | ⟨rfl, h⟩ | ⟨rfl, h⟩
    · refine vx_catch (name := "java/lang/IndexOutOfBoundsException") (E := "java/lang/IndexOutOfBoundsException") hown (tableOf []) ⟨0, 14, 17, 23⟩ (tableOf [(0, 14, 21, 13), (0, 14, 25, 15), (0, 14, 29, 45), (0, 14, 33, 35)]) (htab.trans rfl) (fun _ h9 => absurd h9 List.not_mem_nil) (by decide) (by decide) (ht _ lk517) (castable_use (hY.1 _ (by decide +kernel))) hce hcv hcl ?_
      refine lv_astore (lv' := [(6, .ref q9), (0, .ref (ga X 0)), (1, .int x1), (2, .int x2), (3, .int x3), (4, .int x4), (5, .ref (ga X 34))]) hx hb ddL_exchange_17 hl (by decide) rfl (fun ls hl => ?_)
      refine lv_iconst (v := (1 : Int32)) hx hb ddL_exchange_19 (by decide) ?_
      exact kw_iret hx hb hr hlocks hK hS h ddL_exchange_20 ⟨Nat.le_of_ble_eq_true rfl, Nat.le_of_ble_eq_true rfl⟩
    · refine vx_catch (name := "java/lang/IllegalArgumentException") (E := "java/lang/IllegalArgumentException") hown (tableOf [(0, 14, 17, 23)]) ⟨0, 14, 21, 13⟩ (tableOf [(0, 14, 25, 15), (0, 14, 29, 45), (0, 14, 33, 35)]) (htab.trans rfl) (List.forall_mem_cons.mpr ⟨Or.inr ⟨by decide, "java/lang/IndexOutOfBoundsException", ht _ lk517, hZ.2.2.2.2.2.2 ("java/lang/IllegalArgumentException", "java/lang/IndexOutOfBoundsException") (by decide +kernel)⟩, fun _ h9 => absurd h9 List.not_mem_nil⟩) (by decide) (by decide) (ht _ lk398) (castable_use (hY.1 _ (by decide +kernel))) hce hcv hcl ?_
      refine lv_astore (lv' := [(6, .ref q9), (0, .ref (ga X 0)), (1, .int x1), (2, .int x2), (3, .int x3), (4, .int x4), (5, .ref (ga X 34))]) hx hb ddL_exchange_21 hl (by decide) rfl (fun ls hl => ?_)
      refine lv_iconst (v := (2 : Int32)) hx hb ddL_exchange_23 (by decide) ?_
      exact kw_iret hx hb hr hlocks hK hS h ddL_exchange_24 ⟨Nat.le_of_ble_eq_true rfl, Nat.le_of_ble_eq_true rfl⟩
    · refine vx_catch (name := "java/lang/IllegalStateException") (E := "java/lang/IllegalStateException") hown (tableOf [(0, 14, 17, 23), (0, 14, 21, 13)]) ⟨0, 14, 25, 15⟩ (tableOf [(0, 14, 29, 45), (0, 14, 33, 35)]) (htab.trans rfl) (List.forall_mem_cons.mpr ⟨Or.inr ⟨by decide, "java/lang/IndexOutOfBoundsException", ht _ lk517, hZ.2.2.2.2.2.2 ("java/lang/IllegalStateException", "java/lang/IndexOutOfBoundsException") (by decide +kernel)⟩, List.forall_mem_cons.mpr ⟨Or.inr ⟨by decide, "java/lang/IllegalArgumentException", ht _ lk398, hZ.2.2.2.2.2.2 ("java/lang/IllegalStateException", "java/lang/IllegalArgumentException") (by decide +kernel)⟩, fun _ h9 => absurd h9 List.not_mem_nil⟩⟩) (by decide) (by decide) (ht _ lk399) (castable_use (hY.1 _ (by decide +kernel))) hce hcv hcl ?_
      refine lv_astore (lv' := [(6, .ref q9), (0, .ref (ga X 0)), (1, .int x1), (2, .int x2), (3, .int x3), (4, .int x4), (5, .ref (ga X 34))]) hx hb ddL_exchange_25 hl (by decide) rfl (fun ls hl => ?_)
      refine lv_iconst (v := (3 : Int32)) hx hb ddL_exchange_27 (by decide) ?_
      exact kw_iret hx hb hr hlocks hK hS h ddL_exchange_28 ⟨Nat.le_of_ble_eq_true rfl, Nat.le_of_ble_eq_true rfl⟩
    · refine vx_catch (name := "java/util/NoSuchElementException") (E := "java/util/NoSuchElementException") hown (tableOf [(0, 14, 17, 23), (0, 14, 21, 13), (0, 14, 25, 15)]) ⟨0, 14, 29, 45⟩ (tableOf [(0, 14, 33, 35)]) (htab.trans rfl) (List.forall_mem_cons.mpr ⟨Or.inr ⟨by decide, "java/lang/IndexOutOfBoundsException", ht _ lk517, hZ.2.2.2.2.2.2 ("java/util/NoSuchElementException", "java/lang/IndexOutOfBoundsException") (by decide +kernel)⟩, List.forall_mem_cons.mpr ⟨Or.inr ⟨by decide, "java/lang/IllegalArgumentException", ht _ lk398, hZ.2.2.2.2.2.2 ("java/util/NoSuchElementException", "java/lang/IllegalArgumentException") (by decide +kernel)⟩, List.forall_mem_cons.mpr ⟨Or.inr ⟨by decide, "java/lang/IllegalStateException", ht _ lk399, hZ.2.2.2.2.2.2 ("java/util/NoSuchElementException", "java/lang/IllegalStateException") (by decide +kernel)⟩, fun _ h9 => absurd h9 List.not_mem_nil⟩⟩⟩) (by decide) (by decide) (ht _ lk617) (castable_use (hY.1 _ (by decide +kernel))) hce hcv hcl ?_
      refine lv_astore (lv' := [(6, .ref q9), (0, .ref (ga X 0)), (1, .int x1), (2, .int x2), (3, .int x3), (4, .int x4), (5, .ref (ga X 34))]) hx hb ddL_exchange_29 hl (by decide) rfl (fun ls hl => ?_)
      refine lv_iconst (v := (4 : Int32)) hx hb ddL_exchange_31 (by decide) ?_
      exact kw_iret hx hb hr hlocks hK hS h ddL_exchange_32 ⟨Nat.le_of_ble_eq_true rfl, Nat.le_of_ble_eq_true rfl⟩
    · refine vx_catch (name := "java/lang/UnsupportedOperationException") (E := "java/lang/UnsupportedOperationException") hown (tableOf [(0, 14, 17, 23), (0, 14, 21, 13), (0, 14, 25, 15), (0, 14, 29, 45)]) ⟨0, 14, 33, 35⟩ (tableOf []) (htab.trans rfl) (List.forall_mem_cons.mpr ⟨Or.inr ⟨by decide, "java/lang/IndexOutOfBoundsException", ht _ lk517, hZ.2.2.2.2.2.2 ("java/lang/UnsupportedOperationException", "java/lang/IndexOutOfBoundsException") (by decide +kernel)⟩, List.forall_mem_cons.mpr ⟨Or.inr ⟨by decide, "java/lang/IllegalArgumentException", ht _ lk398, hZ.2.2.2.2.2.2 ("java/lang/UnsupportedOperationException", "java/lang/IllegalArgumentException") (by decide +kernel)⟩, List.forall_mem_cons.mpr ⟨Or.inr ⟨by decide, "java/lang/IllegalStateException", ht _ lk399, hZ.2.2.2.2.2.2 ("java/lang/UnsupportedOperationException", "java/lang/IllegalStateException") (by decide +kernel)⟩, List.forall_mem_cons.mpr ⟨Or.inr ⟨by decide, "java/util/NoSuchElementException", ht _ lk617, hZ.2.2.2.2.2.2 ("java/lang/UnsupportedOperationException", "java/util/NoSuchElementException") (by decide +kernel)⟩, fun _ h9 => absurd h9 List.not_mem_nil⟩⟩⟩⟩) (by decide) (by decide) (ht _ lk573) (castable_use (hY.1 _ (by decide +kernel))) hce hcv hcl ?_
      refine lv_astore (lv' := [(6, .ref q9), (0, .ref (ga X 0)), (1, .int x1), (2, .int x2), (3, .int x3), (4, .int x4), (5, .ref (ga X 34))]) hx hb ddL_exchange_33 hl (by decide) rfl (fun ls hl => ?_)
      refine lv_iconst (v := (5 : Int32)) hx hb ddL_exchange_35 (by decide) ?_
      exact kw_iret hx hb hr hlocks hK hS h ddL_exchange_36 ⟨Nat.le_of_ble_eq_true rfl, Nat.le_of_ble_eq_true rfl⟩
  · refine lv_i2l hx hb ddL_exchange_12 rfl ?_
    refine last_34 hx hb hK hS ddL_exchange_13 (fun H locs hS => ?_)
    obtain ⟨σ4, eσ4⟩ : ∃ y : Mem, y = (st σ1 34 0 r3) := ⟨_, rfl⟩
    rw [← eσ4] at hS
    replace h := h σ4 eσ4
    refine lv_goto (tgt := 37) hx hb ddL_exchange_14 (by decide) ?_
    refine lv_iconst (v := (0 : Int32)) hx hb ddL_exchange_37 (by decide) ?_
    exact kw_iret hx hb hr hlocks hK hS h ddL_exchange_38 ⟨Nat.le_of_ble_eq_true rfl, Nat.le_of_ble_eq_true rfl⟩

set_option maxHeartbeats 4000000 in
set_option maxRecDepth 100000 in
theorem c_L_fillSlot (l : Launch) (X : GX) (hfl : l.stackTraces = false) {x1 : Int32} {σ : Mem} {K : Int32 → Mem → Prop} (h : wp_L_fillSlot x1 σ K) : MH l X yL_fillSlot cL_fillSlot 4 ((Option.some Jvm.ClassFile.FieldType.int)) [(0, 9, 12, 23), (0, 9, 15, 15)] ({ frames := 8, cells := 1, slots := 6, locals := 164 } : Room) 1 6 [.ref (ga X 0), .int x1, .ref (ga X 34)] σ K := by
  refine entH (by decide) (Nat.le_of_ble_eq_true rfl) ?_
  intro p e s m args below meth c A ls hx hb hr hlocks hml hown ht hK hZ hA hS hl hY htab
  have hown : s.vm.findClass "GuardRosterLaw" = some m.cls := hown
  have hl : lv_has ls 4 [(0, .ref (ga X 0)), (1, .int x1), (2, .ref (ga X 34))] := hl
  unfold wp_L_fillSlot at h
  refine lv_aload_n hx hb ddL_fillSlot_0 rfl (lv_at hl 2 rfl) ?_
  refine lv_iconst (v := (0 : Int32)) hx hb ddL_fillSlot_1 (by decide) ?_
  refine lv_aload_n hx hb ddL_fillSlot_2 rfl (lv_at hl 0 rfl) ?_
  refine lv_iload_n hx hb ddL_fillSlot_3 rfl (lv_at hl 1 rfl) ?_
  refine kh_VI (As := [.int x1]) (rest := [.int (0 : Int32), .ref (ga X 34)]) (c_X4_fillSlot l X hfl h) mf_X4_fillSlot lk645 hx hb hml hown ht hK hZ hS hA hY 0 0 rfl rfl rfl ⟨rfl, rfl⟩ ⟨Nat.le_of_ble_eq_true rfl, Nat.le_of_ble_eq_true rfl⟩ rfl hl.1 rfl (Nat.le_of_ble_eq_true rfl) ⟨Nat.le_of_ble_eq_true rfl, Nat.le_of_ble_eq_true rfl⟩ ddL_fillSlot_4 (fun E9 σ9 H locs ce q9 hS h hce hcv hcl => ?_) (fun r3 σ1 H locs hS h => ?_)
  · rcases h with ⟨rfl, h⟩ | ⟨rfl, h⟩
    · refine vx_catch (name := "java/lang/IndexOutOfBoundsException") (E := "java/lang/IndexOutOfBoundsException") hown (tableOf []) ⟨0, 9, 12, 23⟩ (tableOf [(0, 9, 15, 15)]) (htab.trans rfl) (fun _ h9 => absurd h9 List.not_mem_nil) (by decide) (by decide) (ht _ lk517) (castable_use (hY.1 _ (by decide +kernel))) hce hcv hcl ?_
      refine lv_astore_n (lv' := [(3, .ref q9), (0, .ref (ga X 0)), (1, .int x1), (2, .ref (ga X 34))]) hx hb ddL_fillSlot_12 rfl hl (by decide) rfl (fun ls hl => ?_)
      refine lv_iconst (v := (1 : Int32)) hx hb ddL_fillSlot_13 (by decide) ?_
      exact kw_iret hx hb hr hlocks hK hS h ddL_fillSlot_14 ⟨Nat.le_of_ble_eq_true rfl, Nat.le_of_ble_eq_true rfl⟩
    · refine vx_catch (name := "java/lang/IllegalStateException") (E := "java/lang/IllegalStateException") hown (tableOf [(0, 9, 12, 23)]) ⟨0, 9, 15, 15⟩ (tableOf []) (htab.trans rfl) (List.forall_mem_cons.mpr ⟨Or.inr ⟨by decide, "java/lang/IndexOutOfBoundsException", ht _ lk517, hZ.2.2.2.2.2.2 ("java/lang/IllegalStateException", "java/lang/IndexOutOfBoundsException") (by decide +kernel)⟩, fun _ h9 => absurd h9 List.not_mem_nil⟩) (by decide) (by decide) (ht _ lk399) (castable_use (hY.1 _ (by decide +kernel))) hce hcv hcl ?_
      refine lv_astore_n (lv' := [(3, .ref q9), (0, .ref (ga X 0)), (1, .int x1), (2, .ref (ga X 34))]) hx hb ddL_fillSlot_15 rfl hl (by decide) rfl (fun ls hl => ?_)
      refine lv_iconst (v := (2 : Int32)) hx hb ddL_fillSlot_16 (by decide) ?_
      exact kw_iret hx hb hr hlocks hK hS h ddL_fillSlot_17 ⟨Nat.le_of_ble_eq_true rfl, Nat.le_of_ble_eq_true rfl⟩
  · refine lv_i2l hx hb ddL_fillSlot_7 rfl ?_
    refine last_34 hx hb hK hS ddL_fillSlot_8 (fun H locs hS => ?_)
    obtain ⟨σ4, eσ4⟩ : ∃ y : Mem, y = (st σ1 34 0 r3) := ⟨_, rfl⟩
    rw [← eσ4] at hS
    replace h := h σ4 eσ4
    refine lv_goto (tgt := 18) hx hb ddL_fillSlot_9 (by decide) ?_
    refine lv_iconst (v := (0 : Int32)) hx hb ddL_fillSlot_18 (by decide) ?_
    exact kw_iret hx hb hr hlocks hK hS h ddL_fillSlot_19 ⟨Nat.le_of_ble_eq_true rfl, Nat.le_of_ble_eq_true rfl⟩

set_option maxHeartbeats 4000000 in
set_option maxRecDepth 100000 in
theorem c_L_guardAt (l : Launch) (X : GX) (hfl : l.stackTraces = false) {x1 x2 : Int32} {σ : Mem} {K : Int32 → Mem → Prop} (h : wp_L_guardAt x1 x2 σ K) : MH l X yL_guardAt cL_guardAt 5 ((Option.some Jvm.ClassFile.FieldType.int)) [(0, 10, 13, 23), (0, 10, 17, 45)] ({ frames := 7, cells := 1, slots := 6, locals := 113 } : Room) 1 6 [.ref (ga X 0), .int x1, .int x2, .ref (ga X 34)] σ K := by
  refine entH (by decide) (Nat.le_of_ble_eq_true rfl) ?_
  intro p e s m args below meth c A ls hx hb hr hlocks hml hown ht hK hZ hA hS hl hY htab
  have hown : s.vm.findClass "GuardRosterLaw" = some m.cls := hown
  have hl : lv_has ls 5 [(0, .ref (ga X 0)), (1, .int x1), (2, .int x2), (3, .ref (ga X 34))] := hl
  unfold wp_L_guardAt at h
  refine lv_aload_n hx hb ddL_guardAt_0 rfl (lv_at hl 3 rfl) ?_
  refine lv_iconst (v := (0 : Int32)) hx hb ddL_guardAt_1 (by decide) ?_
  refine lv_aload_n hx hb ddL_guardAt_2 rfl (lv_at hl 0 rfl) ?_
  refine lv_iload_n hx hb ddL_guardAt_3 rfl (lv_at hl 1 rfl) ?_
  refine lv_iload_n hx hb ddL_guardAt_4 rfl (lv_at hl 2 rfl) ?_
  refine kh_VI (As := [.int x1, .int x2]) (rest := [.int (0 : Int32), .ref (ga X 34)]) (c_X4_guardAt l X hfl h) mf_X4_guardAt lk675 hx hb hml hown ht hK hZ hS hA hY 0 0 rfl rfl rfl ⟨rfl, rfl⟩ ⟨Nat.le_of_ble_eq_true rfl, Nat.le_of_ble_eq_true rfl⟩ rfl hl.1 rfl (Nat.le_of_ble_eq_true rfl) ⟨Nat.le_of_ble_eq_true rfl, Nat.le_of_ble_eq_true rfl⟩ ddL_guardAt_5 (fun E9 σ9 H locs ce q9 hS h hce hcv hcl => ?_) (fun r3 σ1 H locs hS h => ?_)
  · rcases h with ⟨rfl, h⟩ | ⟨rfl, h⟩
    · refine vx_catch (name := "java/lang/IndexOutOfBoundsException") (E := "java/lang/IndexOutOfBoundsException") hown (tableOf []) ⟨0, 10, 13, 23⟩ (tableOf [(0, 10, 17, 45)]) (htab.trans rfl) (fun _ h9 => absurd h9 List.not_mem_nil) (by decide) (by decide) (ht _ lk517) (castable_use (hY.1 _ (by decide +kernel))) hce hcv hcl ?_
      refine lv_astore (lv' := [(4, .ref q9), (0, .ref (ga X 0)), (1, .int x1), (2, .int x2), (3, .ref (ga X 34))]) hx hb ddL_guardAt_13 hl (by decide) rfl (fun ls hl => ?_)
      refine lv_iconst (v := (1 : Int32)) hx hb ddL_guardAt_15 (by decide) ?_
      exact kw_iret hx hb hr hlocks hK hS h ddL_guardAt_16 ⟨Nat.le_of_ble_eq_true rfl, Nat.le_of_ble_eq_true rfl⟩
    · refine vx_catch (name := "java/util/NoSuchElementException") (E := "java/util/NoSuchElementException") hown (tableOf [(0, 10, 13, 23)]) ⟨0, 10, 17, 45⟩ (tableOf []) (htab.trans rfl) (List.forall_mem_cons.mpr ⟨Or.inr ⟨by decide, "java/lang/IndexOutOfBoundsException", ht _ lk517, hZ.2.2.2.2.2.2 ("java/util/NoSuchElementException", "java/lang/IndexOutOfBoundsException") (by decide +kernel)⟩, fun _ h9 => absurd h9 List.not_mem_nil⟩) (by decide) (by decide) (ht _ lk617) (castable_use (hY.1 _ (by decide +kernel))) hce hcv hcl ?_
      refine lv_astore (lv' := [(4, .ref q9), (0, .ref (ga X 0)), (1, .int x1), (2, .int x2), (3, .ref (ga X 34))]) hx hb ddL_guardAt_17 hl (by decide) rfl (fun ls hl => ?_)
      refine lv_iconst (v := (2 : Int32)) hx hb ddL_guardAt_19 (by decide) ?_
      exact kw_iret hx hb hr hlocks hK hS h ddL_guardAt_20 ⟨Nat.le_of_ble_eq_true rfl, Nat.le_of_ble_eq_true rfl⟩
  · refine lv_i2l hx hb ddL_guardAt_8 rfl ?_
    refine last_34 hx hb hK hS ddL_guardAt_9 (fun H locs hS => ?_)
    obtain ⟨σ4, eσ4⟩ : ∃ y : Mem, y = (st σ1 34 0 r3) := ⟨_, rfl⟩
    rw [← eσ4] at hS
    replace h := h σ4 eσ4
    refine lv_goto (tgt := 21) hx hb ddL_guardAt_10 (by decide) ?_
    refine lv_iconst (v := (0 : Int32)) hx hb ddL_guardAt_21 (by decide) ?_
    exact kw_iret hx hb hr hlocks hK hS h ddL_guardAt_22 ⟨Nat.le_of_ble_eq_true rfl, Nat.le_of_ble_eq_true rfl⟩

set_option maxHeartbeats 4000000 in
set_option maxRecDepth 100000 in
theorem c_L_gateOf (l : Launch) (X : GX) (hfl : l.stackTraces = false) {x1 x2 : Int32} {σ : Mem} {K : Int32 → Mem → Prop} (h : wp_L_gateOf x1 x2 σ K) : MH l X yL_gateOf cL_gateOf 5 ((Option.some Jvm.ClassFile.FieldType.int)) [(0, 10, 13, 23), (0, 10, 17, 45)] ({ frames := 9, cells := 3, slots := 18, locals := 156 } : Room) 3 18 [.ref (ga X 0), .int x1, .int x2, .ref (ga X 34)] σ K := by
  refine entH (by decide) (Nat.le_of_ble_eq_true rfl) ?_
  intro p e s m args below meth c A ls hx hb hr hlocks hml hown ht hK hZ hA hS hl hY htab
  have hown : s.vm.findClass "GuardRosterLaw" = some m.cls := hown
  have hl : lv_has ls 5 [(0, .ref (ga X 0)), (1, .int x1), (2, .int x2), (3, .ref (ga X 34))] := hl
  unfold wp_L_gateOf at h
  refine lv_aload_n hx hb ddL_gateOf_0 rfl (lv_at hl 3 rfl) ?_
  refine lv_iconst (v := (0 : Int32)) hx hb ddL_gateOf_1 (by decide) ?_
  refine lv_aload_n hx hb ddL_gateOf_2 rfl (lv_at hl 0 rfl) ?_
  refine lv_iload_n hx hb ddL_gateOf_3 rfl (lv_at hl 1 rfl) ?_
  refine lv_iload_n hx hb ddL_gateOf_4 rfl (lv_at hl 2 rfl) ?_
  refine kh_VI (As := [.int x1, .int x2]) (rest := [.int (0 : Int32), .ref (ga X 34)]) (c_X4_gateOf l X hfl h) mf_X4_gateOf lk684 hx hb hml hown ht hK hZ hS hA hY 0 0 rfl rfl rfl ⟨rfl, rfl⟩ ⟨Nat.le_of_ble_eq_true rfl, Nat.le_of_ble_eq_true rfl⟩ rfl hl.1 rfl (Nat.le_of_ble_eq_true rfl) ⟨Nat.le_of_ble_eq_true rfl, Nat.le_of_ble_eq_true rfl⟩ ddL_gateOf_5 (fun E9 σ9 H locs ce q9 hS h hce hcv hcl => ?_) (fun r3 σ1 H locs hS h => ?_)
  · rcases h with ⟨rfl, h⟩ | ⟨rfl, h⟩
    · refine vx_catch (name := "java/lang/IndexOutOfBoundsException") (E := "java/lang/IndexOutOfBoundsException") hown (tableOf []) ⟨0, 10, 13, 23⟩ (tableOf [(0, 10, 17, 45)]) (htab.trans rfl) (fun _ h9 => absurd h9 List.not_mem_nil) (by decide) (by decide) (ht _ lk517) (castable_use (hY.1 _ (by decide +kernel))) hce hcv hcl ?_
      refine lv_astore (lv' := [(4, .ref q9), (0, .ref (ga X 0)), (1, .int x1), (2, .int x2), (3, .ref (ga X 34))]) hx hb ddL_gateOf_13 hl (by decide) rfl (fun ls hl => ?_)
      refine lv_iconst (v := (1 : Int32)) hx hb ddL_gateOf_15 (by decide) ?_
      exact kw_iret hx hb hr hlocks hK hS h ddL_gateOf_16 ⟨Nat.le_of_ble_eq_true rfl, Nat.le_of_ble_eq_true rfl⟩
    · refine vx_catch (name := "java/util/NoSuchElementException") (E := "java/util/NoSuchElementException") hown (tableOf [(0, 10, 13, 23)]) ⟨0, 10, 17, 45⟩ (tableOf []) (htab.trans rfl) (List.forall_mem_cons.mpr ⟨Or.inr ⟨by decide, "java/lang/IndexOutOfBoundsException", ht _ lk517, hZ.2.2.2.2.2.2 ("java/util/NoSuchElementException", "java/lang/IndexOutOfBoundsException") (by decide +kernel)⟩, fun _ h9 => absurd h9 List.not_mem_nil⟩) (by decide) (by decide) (ht _ lk617) (castable_use (hY.1 _ (by decide +kernel))) hce hcv hcl ?_
      refine lv_astore (lv' := [(4, .ref q9), (0, .ref (ga X 0)), (1, .int x1), (2, .int x2), (3, .ref (ga X 34))]) hx hb ddL_gateOf_17 hl (by decide) rfl (fun ls hl => ?_)
      refine lv_iconst (v := (2 : Int32)) hx hb ddL_gateOf_19 (by decide) ?_
      exact kw_iret hx hb hr hlocks hK hS h ddL_gateOf_20 ⟨Nat.le_of_ble_eq_true rfl, Nat.le_of_ble_eq_true rfl⟩
  · refine lv_i2l hx hb ddL_gateOf_8 rfl ?_
    refine last_34 hx hb hK hS ddL_gateOf_9 (fun H locs hS => ?_)
    obtain ⟨σ4, eσ4⟩ : ∃ y : Mem, y = (st σ1 34 0 r3) := ⟨_, rfl⟩
    rw [← eσ4] at hS
    replace h := h σ4 eσ4
    refine lv_goto (tgt := 21) hx hb ddL_gateOf_10 (by decide) ?_
    refine lv_iconst (v := (0 : Int32)) hx hb ddL_gateOf_21 (by decide) ?_
    exact kw_iret hx hb hr hlocks hK hS h ddL_gateOf_22 ⟨Nat.le_of_ble_eq_true rfl, Nat.le_of_ble_eq_true rfl⟩

set_option maxHeartbeats 4000000 in
set_option maxRecDepth 100000 in
theorem c_L_dutiesOf (l : Launch) (X : GX) (hfl : l.stackTraces = false) {x1 : Int32} {σ : Mem} {K : Int32 → Mem → Prop} (h : wp_L_dutiesOf x1 σ K) : MH l X yL_dutiesOf cL_dutiesOf 4 ((Option.some Jvm.ClassFile.FieldType.int)) [(0, 9, 12, 23)] ({ frames := 8, cells := 1, slots := 6, locals := 132 } : Room) 1 6 [.ref (ga X 0), .int x1, .ref (ga X 34)] σ K := by
  refine entH (by decide) (Nat.le_of_ble_eq_true rfl) ?_
  intro p e s m args below meth c A ls hx hb hr hlocks hml hown ht hK hZ hA hS hl hY htab
  have hown : s.vm.findClass "GuardRosterLaw" = some m.cls := hown
  have hl : lv_has ls 4 [(0, .ref (ga X 0)), (1, .int x1), (2, .ref (ga X 34))] := hl
  unfold wp_L_dutiesOf at h
  refine lv_aload_n hx hb ddL_dutiesOf_0 rfl (lv_at hl 2 rfl) ?_
  refine lv_iconst (v := (0 : Int32)) hx hb ddL_dutiesOf_1 (by decide) ?_
  refine lv_aload_n hx hb ddL_dutiesOf_2 rfl (lv_at hl 0 rfl) ?_
  refine lv_iload_n hx hb ddL_dutiesOf_3 rfl (lv_at hl 1 rfl) ?_
  refine kh_VI (As := [.int x1]) (rest := [.int (0 : Int32), .ref (ga X 34)]) (c_X4_dutiesOf l X hfl h) mf_X4_dutiesOf lk697 hx hb hml hown ht hK hZ hS hA hY 0 0 rfl rfl rfl ⟨rfl, rfl⟩ ⟨Nat.le_of_ble_eq_true rfl, Nat.le_of_ble_eq_true rfl⟩ rfl hl.1 rfl (Nat.le_of_ble_eq_true rfl) ⟨Nat.le_of_ble_eq_true rfl, Nat.le_of_ble_eq_true rfl⟩ ddL_dutiesOf_4 (fun E9 σ9 H locs ce q9 hS h hce hcv hcl => ?_) (fun r3 σ1 H locs hS h => ?_)
  · rcases h with ⟨rfl, h⟩
    · refine vx_catch (name := "java/lang/IndexOutOfBoundsException") (E := "java/lang/IndexOutOfBoundsException") hown (tableOf []) ⟨0, 9, 12, 23⟩ (tableOf []) (htab.trans rfl) (fun _ h9 => absurd h9 List.not_mem_nil) (by decide) (by decide) (ht _ lk517) (castable_use (hY.1 _ (by decide +kernel))) hce hcv hcl ?_
      refine lv_astore_n (lv' := [(3, .ref q9), (0, .ref (ga X 0)), (1, .int x1), (2, .ref (ga X 34))]) hx hb ddL_dutiesOf_12 rfl hl (by decide) rfl (fun ls hl => ?_)
      refine lv_iconst (v := (1 : Int32)) hx hb ddL_dutiesOf_13 (by decide) ?_
      exact kw_iret hx hb hr hlocks hK hS h ddL_dutiesOf_14 ⟨Nat.le_of_ble_eq_true rfl, Nat.le_of_ble_eq_true rfl⟩
  · refine lv_i2l hx hb ddL_dutiesOf_7 rfl ?_
    refine last_34 hx hb hK hS ddL_dutiesOf_8 (fun H locs hS => ?_)
    obtain ⟨σ4, eσ4⟩ : ∃ y : Mem, y = (st σ1 34 0 r3) := ⟨_, rfl⟩
    rw [← eσ4] at hS
    replace h := h σ4 eσ4
    refine lv_goto (tgt := 15) hx hb ddL_dutiesOf_9 (by decide) ?_
    refine lv_iconst (v := (0 : Int32)) hx hb ddL_dutiesOf_15 (by decide) ?_
    exact kw_iret hx hb hr hlocks hK hS h ddL_dutiesOf_16 ⟨Nat.le_of_ble_eq_true rfl, Nat.le_of_ble_eq_true rfl⟩

set_option maxHeartbeats 4000000 in
set_option maxRecDepth 100000 in
theorem c_L_openGates (l : Launch) (X : GX) (hfl : l.stackTraces = false) {x1 : Int32} {σ : Mem} {K : Int32 → Mem → Prop} (h : wp_L_openGates x1 σ K) : MH l X yL_openGates cL_openGates 4 ((Option.some Jvm.ClassFile.FieldType.int)) [(0, 9, 12, 23)] ({ frames := 8, cells := 1, slots := 6, locals := 132 } : Room) 1 6 [.ref (ga X 0), .int x1, .ref (ga X 34)] σ K := by
  refine entH (by decide) (Nat.le_of_ble_eq_true rfl) ?_
  intro p e s m args below meth c A ls hx hb hr hlocks hml hown ht hK hZ hA hS hl hY htab
  have hown : s.vm.findClass "GuardRosterLaw" = some m.cls := hown
  have hl : lv_has ls 4 [(0, .ref (ga X 0)), (1, .int x1), (2, .ref (ga X 34))] := hl
  unfold wp_L_openGates at h
  refine lv_aload_n hx hb ddL_openGates_0 rfl (lv_at hl 2 rfl) ?_
  refine lv_iconst (v := (0 : Int32)) hx hb ddL_openGates_1 (by decide) ?_
  refine lv_aload_n hx hb ddL_openGates_2 rfl (lv_at hl 0 rfl) ?_
  refine lv_iload_n hx hb ddL_openGates_3 rfl (lv_at hl 1 rfl) ?_
  refine kh_VI (As := [.int x1]) (rest := [.int (0 : Int32), .ref (ga X 34)]) (c_X4_openGates l X hfl h) mf_X4_openGates lk704 hx hb hml hown ht hK hZ hS hA hY 0 0 rfl rfl rfl ⟨rfl, rfl⟩ ⟨Nat.le_of_ble_eq_true rfl, Nat.le_of_ble_eq_true rfl⟩ rfl hl.1 rfl (Nat.le_of_ble_eq_true rfl) ⟨Nat.le_of_ble_eq_true rfl, Nat.le_of_ble_eq_true rfl⟩ ddL_openGates_4 (fun E9 σ9 H locs ce q9 hS h hce hcv hcl => ?_) (fun r3 σ1 H locs hS h => ?_)
  · rcases h with ⟨rfl, h⟩
    · refine vx_catch (name := "java/lang/IndexOutOfBoundsException") (E := "java/lang/IndexOutOfBoundsException") hown (tableOf []) ⟨0, 9, 12, 23⟩ (tableOf []) (htab.trans rfl) (fun _ h9 => absurd h9 List.not_mem_nil) (by decide) (by decide) (ht _ lk517) (castable_use (hY.1 _ (by decide +kernel))) hce hcv hcl ?_
      refine lv_astore_n (lv' := [(3, .ref q9), (0, .ref (ga X 0)), (1, .int x1), (2, .ref (ga X 34))]) hx hb ddL_openGates_12 rfl hl (by decide) rfl (fun ls hl => ?_)
      refine lv_iconst (v := (1 : Int32)) hx hb ddL_openGates_13 (by decide) ?_
      exact kw_iret hx hb hr hlocks hK hS h ddL_openGates_14 ⟨Nat.le_of_ble_eq_true rfl, Nat.le_of_ble_eq_true rfl⟩
  · refine lv_i2l hx hb ddL_openGates_7 rfl ?_
    refine last_34 hx hb hK hS ddL_openGates_8 (fun H locs hS => ?_)
    obtain ⟨σ4, eσ4⟩ : ∃ y : Mem, y = (st σ1 34 0 r3) := ⟨_, rfl⟩
    rw [← eσ4] at hS
    replace h := h σ4 eσ4
    refine lv_goto (tgt := 15) hx hb ddL_openGates_9 (by decide) ?_
    refine lv_iconst (v := (0 : Int32)) hx hb ddL_openGates_15 (by decide) ?_
    exact kw_iret hx hb hr hlocks hK hS h ddL_openGates_16 ⟨Nat.le_of_ble_eq_true rfl, Nat.le_of_ble_eq_true rfl⟩

set_option maxHeartbeats 4000000 in
set_option maxRecDepth 100000 in
theorem c_L_mostDuties (l : Launch) (X : GX) (hfl : l.stackTraces = false) {x1 : Int32} {σ : Mem} {K : Int32 → Mem → Prop} (h : wp_L_mostDuties x1 σ K) : MH l X yL_mostDuties cL_mostDuties 4 ((Option.some Jvm.ClassFile.FieldType.int)) [(0, 9, 12, 23)] ({ frames := 9, cells := 1, slots := 6, locals := 218 } : Room) 1 6 [.ref (ga X 0), .int x1, .ref (ga X 34)] σ K := by
  refine entH (by decide) (Nat.le_of_ble_eq_true rfl) ?_
  intro p e s m args below meth c A ls hx hb hr hlocks hml hown ht hK hZ hA hS hl hY htab
  have hown : s.vm.findClass "GuardRosterLaw" = some m.cls := hown
  have hl : lv_has ls 4 [(0, .ref (ga X 0)), (1, .int x1), (2, .ref (ga X 34))] := hl
  unfold wp_L_mostDuties at h
  refine lv_aload_n hx hb ddL_mostDuties_0 rfl (lv_at hl 2 rfl) ?_
  refine lv_iconst (v := (0 : Int32)) hx hb ddL_mostDuties_1 (by decide) ?_
  refine lv_aload_n hx hb ddL_mostDuties_2 rfl (lv_at hl 0 rfl) ?_
  refine lv_iload_n hx hb ddL_mostDuties_3 rfl (lv_at hl 1 rfl) ?_
  refine kh_VI (As := [.int x1]) (rest := [.int (0 : Int32), .ref (ga X 34)]) (c_X4_mostDuties l X hfl h) mf_X4_mostDuties lk711 hx hb hml hown ht hK hZ hS hA hY 0 0 rfl rfl rfl ⟨rfl, rfl⟩ ⟨Nat.le_of_ble_eq_true rfl, Nat.le_of_ble_eq_true rfl⟩ rfl hl.1 rfl (Nat.le_of_ble_eq_true rfl) ⟨Nat.le_of_ble_eq_true rfl, Nat.le_of_ble_eq_true rfl⟩ ddL_mostDuties_4 (fun E9 σ9 H locs ce q9 hS h hce hcv hcl => ?_) (fun r3 σ1 H locs hS h => ?_)
  · rcases h with ⟨rfl, h⟩
    · refine vx_catch (name := "java/lang/IndexOutOfBoundsException") (E := "java/lang/IndexOutOfBoundsException") hown (tableOf []) ⟨0, 9, 12, 23⟩ (tableOf []) (htab.trans rfl) (fun _ h9 => absurd h9 List.not_mem_nil) (by decide) (by decide) (ht _ lk517) (castable_use (hY.1 _ (by decide +kernel))) hce hcv hcl ?_
      refine lv_astore_n (lv' := [(3, .ref q9), (0, .ref (ga X 0)), (1, .int x1), (2, .ref (ga X 34))]) hx hb ddL_mostDuties_12 rfl hl (by decide) rfl (fun ls hl => ?_)
      refine lv_iconst (v := (1 : Int32)) hx hb ddL_mostDuties_13 (by decide) ?_
      exact kw_iret hx hb hr hlocks hK hS h ddL_mostDuties_14 ⟨Nat.le_of_ble_eq_true rfl, Nat.le_of_ble_eq_true rfl⟩
  · refine lv_i2l hx hb ddL_mostDuties_7 rfl ?_
    refine last_34 hx hb hK hS ddL_mostDuties_8 (fun H locs hS => ?_)
    obtain ⟨σ4, eσ4⟩ : ∃ y : Mem, y = (st σ1 34 0 r3) := ⟨_, rfl⟩
    rw [← eσ4] at hS
    replace h := h σ4 eσ4
    refine lv_goto (tgt := 15) hx hb ddL_mostDuties_9 (by decide) ?_
    refine lv_iconst (v := (0 : Int32)) hx hb ddL_mostDuties_15 (by decide) ?_
    exact kw_iret hx hb hr hlocks hK hS h ddL_mostDuties_16 ⟨Nat.le_of_ble_eq_true rfl, Nat.le_of_ble_eq_true rfl⟩

set_option maxHeartbeats 4000000 in
set_option maxRecDepth 100000 in
theorem c_L_mostDutiesBySets (l : Launch) (X : GX) (hfl : l.stackTraces = false) {x1 : Int32} {σ : Mem} {K : Int32 → Mem → Prop} (h : wp_L_mostDutiesBySets x1 σ K) : MH l X yL_mostDutiesBySets cL_mostDutiesBySets 4 ((Option.some Jvm.ClassFile.FieldType.int)) [(0, 9, 12, 23)] ({ frames := 8, cells := 1, slots := 6, locals := 134 } : Room) 1 6 [.ref (ga X 0), .int x1, .ref (ga X 34)] σ K := by
  refine entH (by decide) (Nat.le_of_ble_eq_true rfl) ?_
  intro p e s m args below meth c A ls hx hb hr hlocks hml hown ht hK hZ hA hS hl hY htab
  have hown : s.vm.findClass "GuardRosterLaw" = some m.cls := hown
  have hl : lv_has ls 4 [(0, .ref (ga X 0)), (1, .int x1), (2, .ref (ga X 34))] := hl
  unfold wp_L_mostDutiesBySets at h
  refine lv_aload_n hx hb ddL_mostDutiesBySets_0 rfl (lv_at hl 2 rfl) ?_
  refine lv_iconst (v := (0 : Int32)) hx hb ddL_mostDutiesBySets_1 (by decide) ?_
  refine lv_aload_n hx hb ddL_mostDutiesBySets_2 rfl (lv_at hl 0 rfl) ?_
  refine lv_iload_n hx hb ddL_mostDutiesBySets_3 rfl (lv_at hl 1 rfl) ?_
  refine kh_VI (As := [.int x1]) (rest := [.int (0 : Int32), .ref (ga X 34)]) (c_X4_mostDutiesBySets l X hfl h) mf_X4_mostDutiesBySets lk715 hx hb hml hown ht hK hZ hS hA hY 0 0 rfl rfl rfl ⟨rfl, rfl⟩ ⟨Nat.le_of_ble_eq_true rfl, Nat.le_of_ble_eq_true rfl⟩ rfl hl.1 rfl (Nat.le_of_ble_eq_true rfl) ⟨Nat.le_of_ble_eq_true rfl, Nat.le_of_ble_eq_true rfl⟩ ddL_mostDutiesBySets_4 (fun E9 σ9 H locs ce q9 hS h hce hcv hcl => ?_) (fun r3 σ1 H locs hS h => ?_)
  · rcases h with ⟨rfl, h⟩
    · refine vx_catch (name := "java/lang/IndexOutOfBoundsException") (E := "java/lang/IndexOutOfBoundsException") hown (tableOf []) ⟨0, 9, 12, 23⟩ (tableOf []) (htab.trans rfl) (fun _ h9 => absurd h9 List.not_mem_nil) (by decide) (by decide) (ht _ lk517) (castable_use (hY.1 _ (by decide +kernel))) hce hcv hcl ?_
      refine lv_astore_n (lv' := [(3, .ref q9), (0, .ref (ga X 0)), (1, .int x1), (2, .ref (ga X 34))]) hx hb ddL_mostDutiesBySets_12 rfl hl (by decide) rfl (fun ls hl => ?_)
      refine lv_iconst (v := (1 : Int32)) hx hb ddL_mostDutiesBySets_13 (by decide) ?_
      exact kw_iret hx hb hr hlocks hK hS h ddL_mostDutiesBySets_14 ⟨Nat.le_of_ble_eq_true rfl, Nat.le_of_ble_eq_true rfl⟩
  · refine lv_i2l hx hb ddL_mostDutiesBySets_7 rfl ?_
    refine last_34 hx hb hK hS ddL_mostDutiesBySets_8 (fun H locs hS => ?_)
    obtain ⟨σ4, eσ4⟩ : ∃ y : Mem, y = (st σ1 34 0 r3) := ⟨_, rfl⟩
    rw [← eσ4] at hS
    replace h := h σ4 eσ4
    refine lv_goto (tgt := 15) hx hb ddL_mostDutiesBySets_9 (by decide) ?_
    refine lv_iconst (v := (0 : Int32)) hx hb ddL_mostDutiesBySets_15 (by decide) ?_
    exact kw_iret hx hb hr hlocks hK hS h ddL_mostDutiesBySets_16 ⟨Nat.le_of_ble_eq_true rfl, Nat.le_of_ble_eq_true rfl⟩

set_option maxHeartbeats 4000000 in
set_option maxRecDepth 100000 in
theorem c_L_nextDuty (l : Launch) (X : GX) (hfl : l.stackTraces = false) {x1 : Int32} {σ : Mem} {K : Int32 → Mem → Prop} (h : wp_L_nextDuty x1 σ K) : MH l X yL_nextDuty cL_nextDuty 4 ((Option.some Jvm.ClassFile.FieldType.int)) [(0, 9, 12, 23), (0, 9, 15, 45)] ({ frames := 8, cells := 2, slots := 12, locals := 133 } : Room) 2 12 [.ref (ga X 0), .int x1, .ref (ga X 34)] σ K := by
  refine entH (by decide) (Nat.le_of_ble_eq_true rfl) ?_
  intro p e s m args below meth c A ls hx hb hr hlocks hml hown ht hK hZ hA hS hl hY htab
  have hown : s.vm.findClass "GuardRosterLaw" = some m.cls := hown
  have hl : lv_has ls 4 [(0, .ref (ga X 0)), (1, .int x1), (2, .ref (ga X 34))] := hl
  unfold wp_L_nextDuty at h
  refine lv_aload_n hx hb ddL_nextDuty_0 rfl (lv_at hl 2 rfl) ?_
  refine lv_iconst (v := (0 : Int32)) hx hb ddL_nextDuty_1 (by decide) ?_
  refine lv_aload_n hx hb ddL_nextDuty_2 rfl (lv_at hl 0 rfl) ?_
  refine lv_iload_n hx hb ddL_nextDuty_3 rfl (lv_at hl 1 rfl) ?_
  refine kh_VI (As := [.int x1]) (rest := [.int (0 : Int32), .ref (ga X 34)]) (c_X4_nextDuty l X hfl h) mf_X4_nextDuty lk719 hx hb hml hown ht hK hZ hS hA hY 0 0 rfl rfl rfl ⟨rfl, rfl⟩ ⟨Nat.le_of_ble_eq_true rfl, Nat.le_of_ble_eq_true rfl⟩ rfl hl.1 rfl (Nat.le_of_ble_eq_true rfl) ⟨Nat.le_of_ble_eq_true rfl, Nat.le_of_ble_eq_true rfl⟩ ddL_nextDuty_4 (fun E9 σ9 H locs ce q9 hS h hce hcv hcl => ?_) (fun r3 σ1 H locs hS h => ?_)
  · rcases h with ⟨rfl, h⟩ | ⟨rfl, h⟩
    · refine vx_catch (name := "java/lang/IndexOutOfBoundsException") (E := "java/lang/IndexOutOfBoundsException") hown (tableOf []) ⟨0, 9, 12, 23⟩ (tableOf [(0, 9, 15, 45)]) (htab.trans rfl) (fun _ h9 => absurd h9 List.not_mem_nil) (by decide) (by decide) (ht _ lk517) (castable_use (hY.1 _ (by decide +kernel))) hce hcv hcl ?_
      refine lv_astore_n (lv' := [(3, .ref q9), (0, .ref (ga X 0)), (1, .int x1), (2, .ref (ga X 34))]) hx hb ddL_nextDuty_12 rfl hl (by decide) rfl (fun ls hl => ?_)
      refine lv_iconst (v := (1 : Int32)) hx hb ddL_nextDuty_13 (by decide) ?_
      exact kw_iret hx hb hr hlocks hK hS h ddL_nextDuty_14 ⟨Nat.le_of_ble_eq_true rfl, Nat.le_of_ble_eq_true rfl⟩
    · refine vx_catch (name := "java/util/NoSuchElementException") (E := "java/util/NoSuchElementException") hown (tableOf [(0, 9, 12, 23)]) ⟨0, 9, 15, 45⟩ (tableOf []) (htab.trans rfl) (List.forall_mem_cons.mpr ⟨Or.inr ⟨by decide, "java/lang/IndexOutOfBoundsException", ht _ lk517, hZ.2.2.2.2.2.2 ("java/util/NoSuchElementException", "java/lang/IndexOutOfBoundsException") (by decide +kernel)⟩, fun _ h9 => absurd h9 List.not_mem_nil⟩) (by decide) (by decide) (ht _ lk617) (castable_use (hY.1 _ (by decide +kernel))) hce hcv hcl ?_
      refine lv_astore_n (lv' := [(3, .ref q9), (0, .ref (ga X 0)), (1, .int x1), (2, .ref (ga X 34))]) hx hb ddL_nextDuty_15 rfl hl (by decide) rfl (fun ls hl => ?_)
      refine lv_iconst (v := (2 : Int32)) hx hb ddL_nextDuty_16 (by decide) ?_
      exact kw_iret hx hb hr hlocks hK hS h ddL_nextDuty_17 ⟨Nat.le_of_ble_eq_true rfl, Nat.le_of_ble_eq_true rfl⟩
  · refine lv_i2l hx hb ddL_nextDuty_7 rfl ?_
    refine last_34 hx hb hK hS ddL_nextDuty_8 (fun H locs hS => ?_)
    obtain ⟨σ4, eσ4⟩ : ∃ y : Mem, y = (st σ1 34 0 r3) := ⟨_, rfl⟩
    rw [← eσ4] at hS
    replace h := h σ4 eσ4
    refine lv_goto (tgt := 18) hx hb ddL_nextDuty_9 (by decide) ?_
    refine lv_iconst (v := (0 : Int32)) hx hb ddL_nextDuty_18 (by decide) ?_
    exact kw_iret hx hb hr hlocks hK hS h ddL_nextDuty_19 ⟨Nat.le_of_ble_eq_true rfl, Nat.le_of_ble_eq_true rfl⟩

set_option maxHeartbeats 4000000 in
set_option maxRecDepth 100000 in
theorem c_L_longestRest (l : Launch) (X : GX) (hfl : l.stackTraces = false) {x1 : Int32} {σ : Mem} {K : Int32 → Mem → Prop} (h : wp_L_longestRest x1 σ K) : MH l X yL_longestRest cL_longestRest 4 ((Option.some Jvm.ClassFile.FieldType.int)) [(0, 9, 12, 23)] ({ frames := 8, cells := 1, slots := 6, locals := 132 } : Room) 1 6 [.ref (ga X 0), .int x1, .ref (ga X 34)] σ K := by
  refine entH (by decide) (Nat.le_of_ble_eq_true rfl) ?_
  intro p e s m args below meth c A ls hx hb hr hlocks hml hown ht hK hZ hA hS hl hY htab
  have hown : s.vm.findClass "GuardRosterLaw" = some m.cls := hown
  have hl : lv_has ls 4 [(0, .ref (ga X 0)), (1, .int x1), (2, .ref (ga X 34))] := hl
  unfold wp_L_longestRest at h
  refine lv_aload_n hx hb ddL_longestRest_0 rfl (lv_at hl 2 rfl) ?_
  refine lv_iconst (v := (0 : Int32)) hx hb ddL_longestRest_1 (by decide) ?_
  refine lv_aload_n hx hb ddL_longestRest_2 rfl (lv_at hl 0 rfl) ?_
  refine lv_iload_n hx hb ddL_longestRest_3 rfl (lv_at hl 1 rfl) ?_
  refine kh_VI (As := [.int x1]) (rest := [.int (0 : Int32), .ref (ga X 34)]) (c_X4_longestRest l X hfl h) mf_X4_longestRest lk731 hx hb hml hown ht hK hZ hS hA hY 0 0 rfl rfl rfl ⟨rfl, rfl⟩ ⟨Nat.le_of_ble_eq_true rfl, Nat.le_of_ble_eq_true rfl⟩ rfl hl.1 rfl (Nat.le_of_ble_eq_true rfl) ⟨Nat.le_of_ble_eq_true rfl, Nat.le_of_ble_eq_true rfl⟩ ddL_longestRest_4 (fun E9 σ9 H locs ce q9 hS h hce hcv hcl => ?_) (fun r3 σ1 H locs hS h => ?_)
  · rcases h with ⟨rfl, h⟩
    · refine vx_catch (name := "java/lang/IndexOutOfBoundsException") (E := "java/lang/IndexOutOfBoundsException") hown (tableOf []) ⟨0, 9, 12, 23⟩ (tableOf []) (htab.trans rfl) (fun _ h9 => absurd h9 List.not_mem_nil) (by decide) (by decide) (ht _ lk517) (castable_use (hY.1 _ (by decide +kernel))) hce hcv hcl ?_
      refine lv_astore_n (lv' := [(3, .ref q9), (0, .ref (ga X 0)), (1, .int x1), (2, .ref (ga X 34))]) hx hb ddL_longestRest_12 rfl hl (by decide) rfl (fun ls hl => ?_)
      refine lv_iconst (v := (1 : Int32)) hx hb ddL_longestRest_13 (by decide) ?_
      exact kw_iret hx hb hr hlocks hK hS h ddL_longestRest_14 ⟨Nat.le_of_ble_eq_true rfl, Nat.le_of_ble_eq_true rfl⟩
  · refine lv_i2l hx hb ddL_longestRest_7 rfl ?_
    refine last_34 hx hb hK hS ddL_longestRest_8 (fun H locs hS => ?_)
    obtain ⟨σ4, eσ4⟩ : ∃ y : Mem, y = (st σ1 34 0 r3) := ⟨_, rfl⟩
    rw [← eσ4] at hS
    replace h := h σ4 eσ4
    refine lv_goto (tgt := 15) hx hb ddL_longestRest_9 (by decide) ?_
    refine lv_iconst (v := (0 : Int32)) hx hb ddL_longestRest_15 (by decide) ?_
    exact kw_iret hx hb hr hlocks hK hS h ddL_longestRest_16 ⟨Nat.le_of_ble_eq_true rfl, Nat.le_of_ble_eq_true rfl⟩

set_option maxHeartbeats 4000000 in
set_option maxRecDepth 100000 in
theorem c_L_guardByDuties (l : Launch) (X : GX) (hfl : l.stackTraces = false) {x1 : Int32} {σ : Mem} {K : Int32 → Mem → Prop} (h : wp_L_guardByDuties x1 σ K) : MH l X yL_guardByDuties cL_guardByDuties 4 ((Option.some Jvm.ClassFile.FieldType.int)) [(0, 9, 12, 45)] ({ frames := 7, cells := 1, slots := 6, locals := 111 } : Room) 1 6 [.ref (ga X 0), .int x1, .ref (ga X 34)] σ K := by
  refine entH (by decide) (Nat.le_of_ble_eq_true rfl) ?_
  intro p e s m args below meth c A ls hx hb hr hlocks hml hown ht hK hZ hA hS hl hY htab
  have hown : s.vm.findClass "GuardRosterLaw" = some m.cls := hown
  have hl : lv_has ls 4 [(0, .ref (ga X 0)), (1, .int x1), (2, .ref (ga X 34))] := hl
  unfold wp_L_guardByDuties at h
  refine lv_aload_n hx hb ddL_guardByDuties_0 rfl (lv_at hl 2 rfl) ?_
  refine lv_iconst (v := (0 : Int32)) hx hb ddL_guardByDuties_1 (by decide) ?_
  refine lv_aload_n hx hb ddL_guardByDuties_2 rfl (lv_at hl 0 rfl) ?_
  refine lv_iload_n hx hb ddL_guardByDuties_3 rfl (lv_at hl 1 rfl) ?_
  refine kh_VI (As := [.int x1]) (rest := [.int (0 : Int32), .ref (ga X 34)]) (c_X4_guardByDuties l X hfl h) mf_X4_guardByDuties lk742 hx hb hml hown ht hK hZ hS hA hY 0 0 rfl rfl rfl ⟨rfl, rfl⟩ ⟨Nat.le_of_ble_eq_true rfl, Nat.le_of_ble_eq_true rfl⟩ rfl hl.1 rfl (Nat.le_of_ble_eq_true rfl) ⟨Nat.le_of_ble_eq_true rfl, Nat.le_of_ble_eq_true rfl⟩ ddL_guardByDuties_4 (fun E9 σ9 H locs ce q9 hS h hce hcv hcl => ?_) (fun r3 σ1 H locs hS h => ?_)
  · rcases h with ⟨rfl, h⟩
    · refine vx_catch (name := "java/util/NoSuchElementException") (E := "java/util/NoSuchElementException") hown (tableOf []) ⟨0, 9, 12, 45⟩ (tableOf []) (htab.trans rfl) (fun _ h9 => absurd h9 List.not_mem_nil) (by decide) (by decide) (ht _ lk617) (castable_use (hY.1 _ (by decide +kernel))) hce hcv hcl ?_
      refine lv_astore_n (lv' := [(3, .ref q9), (0, .ref (ga X 0)), (1, .int x1), (2, .ref (ga X 34))]) hx hb ddL_guardByDuties_12 rfl hl (by decide) rfl (fun ls hl => ?_)
      refine lv_iconst (v := (1 : Int32)) hx hb ddL_guardByDuties_13 (by decide) ?_
      exact kw_iret hx hb hr hlocks hK hS h ddL_guardByDuties_14 ⟨Nat.le_of_ble_eq_true rfl, Nat.le_of_ble_eq_true rfl⟩
  · refine lv_i2l hx hb ddL_guardByDuties_7 rfl ?_
    refine last_34 hx hb hK hS ddL_guardByDuties_8 (fun H locs hS => ?_)
    obtain ⟨σ4, eσ4⟩ : ∃ y : Mem, y = (st σ1 34 0 r3) := ⟨_, rfl⟩
    rw [← eσ4] at hS
    replace h := h σ4 eσ4
    refine lv_goto (tgt := 15) hx hb ddL_guardByDuties_9 (by decide) ?_
    refine lv_iconst (v := (0 : Int32)) hx hb ddL_guardByDuties_15 (by decide) ?_
    exact kw_iret hx hb hr hlocks hK hS h ddL_guardByDuties_16 ⟨Nat.le_of_ble_eq_true rfl, Nat.le_of_ble_eq_true rfl⟩

set_option maxHeartbeats 4000000 in
set_option maxRecDepth 100000 in
theorem c_L_grantLeave (l : Launch) (X : GX) (hfl : l.stackTraces = false) {x1 x2 x3 : Int32} {σ : Mem} {K : Int32 → Mem → Prop} (h : wp_L_grantLeave x1 x2 x3 σ K) : MH l X yL_grantLeave cL_grantLeave 6 ((Option.some Jvm.ClassFile.FieldType.int)) [(0, 12, 15, 23), (0, 12, 19, 13), (0, 12, 23, 15), (0, 12, 27, 35)] ({ frames := 8, cells := 1, slots := 6, locals := 166 } : Room) 1 6 [.ref (ga X 0), .int x1, .int x2, .int x3, .ref (ga X 34)] σ K := by
  refine entH (by decide) (Nat.le_of_ble_eq_true rfl) ?_
  intro p e s m args below meth c A ls hx hb hr hlocks hml hown ht hK hZ hA hS hl hY htab
  have hown : s.vm.findClass "GuardRosterLaw" = some m.cls := hown
  have hl : lv_has ls 6 [(0, .ref (ga X 0)), (1, .int x1), (2, .int x2), (3, .int x3), (4, .ref (ga X 34))] := hl
  unfold wp_L_grantLeave at h
  refine lv_aload hx hb ddL_grantLeave_0 (lv_at hl 4 rfl) ?_
  refine lv_iconst (v := (0 : Int32)) hx hb ddL_grantLeave_2 (by decide) ?_
  refine lv_aload_n hx hb ddL_grantLeave_3 rfl (lv_at hl 0 rfl) ?_
  refine lv_iload_n hx hb ddL_grantLeave_4 rfl (lv_at hl 1 rfl) ?_
  refine lv_iload_n hx hb ddL_grantLeave_5 rfl (lv_at hl 2 rfl) ?_
  refine lv_iload_n hx hb ddL_grantLeave_6 rfl (lv_at hl 3 rfl) ?_
  refine kh_VI (As := [.int x1, .int x2, .int x3]) (rest := [.int (0 : Int32), .ref (ga X 34)]) (c_X4_grantLeave l X hfl h) mf_X4_grantLeave lk758 hx hb hml hown ht hK hZ hS hA hY 0 0 rfl rfl rfl ⟨rfl, rfl⟩ ⟨Nat.le_of_ble_eq_true rfl, Nat.le_of_ble_eq_true rfl⟩ rfl hl.1 rfl (Nat.le_of_ble_eq_true rfl) ⟨Nat.le_of_ble_eq_true rfl, Nat.le_of_ble_eq_true rfl⟩ ddL_grantLeave_7 (fun E9 σ9 H locs ce q9 hS h hce hcv hcl => ?_) (fun r3 σ1 H locs hS h => ?_)
  · rcases h with ⟨rfl, h⟩ | ⟨rfl, h⟩ | ⟨rfl, h⟩ | ⟨rfl, h⟩
    · refine vx_catch (name := "java/lang/IndexOutOfBoundsException") (E := "java/lang/IndexOutOfBoundsException") hown (tableOf []) ⟨0, 12, 15, 23⟩ (tableOf [(0, 12, 19, 13), (0, 12, 23, 15), (0, 12, 27, 35)]) (htab.trans rfl) (fun _ h9 => absurd h9 List.not_mem_nil) (by decide) (by decide) (ht _ lk517) (castable_use (hY.1 _ (by decide +kernel))) hce hcv hcl ?_
      refine lv_astore (lv' := [(5, .ref q9), (0, .ref (ga X 0)), (1, .int x1), (2, .int x2), (3, .int x3), (4, .ref (ga X 34))]) hx hb ddL_grantLeave_15 hl (by decide) rfl (fun ls hl => ?_)
      refine lv_iconst (v := (1 : Int32)) hx hb ddL_grantLeave_17 (by decide) ?_
      exact kw_iret hx hb hr hlocks hK hS h ddL_grantLeave_18 ⟨Nat.le_of_ble_eq_true rfl, Nat.le_of_ble_eq_true rfl⟩
    · refine vx_catch (name := "java/lang/IllegalArgumentException") (E := "java/lang/IllegalArgumentException") hown (tableOf [(0, 12, 15, 23)]) ⟨0, 12, 19, 13⟩ (tableOf [(0, 12, 23, 15), (0, 12, 27, 35)]) (htab.trans rfl) (List.forall_mem_cons.mpr ⟨Or.inr ⟨by decide, "java/lang/IndexOutOfBoundsException", ht _ lk517, hZ.2.2.2.2.2.2 ("java/lang/IllegalArgumentException", "java/lang/IndexOutOfBoundsException") (by decide +kernel)⟩, fun _ h9 => absurd h9 List.not_mem_nil⟩) (by decide) (by decide) (ht _ lk398) (castable_use (hY.1 _ (by decide +kernel))) hce hcv hcl ?_
      refine lv_astore (lv' := [(5, .ref q9), (0, .ref (ga X 0)), (1, .int x1), (2, .int x2), (3, .int x3), (4, .ref (ga X 34))]) hx hb ddL_grantLeave_19 hl (by decide) rfl (fun ls hl => ?_)
      refine lv_iconst (v := (2 : Int32)) hx hb ddL_grantLeave_21 (by decide) ?_
      exact kw_iret hx hb hr hlocks hK hS h ddL_grantLeave_22 ⟨Nat.le_of_ble_eq_true rfl, Nat.le_of_ble_eq_true rfl⟩
    · refine vx_catch (name := "java/lang/IllegalStateException") (E := "java/lang/IllegalStateException") hown (tableOf [(0, 12, 15, 23), (0, 12, 19, 13)]) ⟨0, 12, 23, 15⟩ (tableOf [(0, 12, 27, 35)]) (htab.trans rfl) (List.forall_mem_cons.mpr ⟨Or.inr ⟨by decide, "java/lang/IndexOutOfBoundsException", ht _ lk517, hZ.2.2.2.2.2.2 ("java/lang/IllegalStateException", "java/lang/IndexOutOfBoundsException") (by decide +kernel)⟩, List.forall_mem_cons.mpr ⟨Or.inr ⟨by decide, "java/lang/IllegalArgumentException", ht _ lk398, hZ.2.2.2.2.2.2 ("java/lang/IllegalStateException", "java/lang/IllegalArgumentException") (by decide +kernel)⟩, fun _ h9 => absurd h9 List.not_mem_nil⟩⟩) (by decide) (by decide) (ht _ lk399) (castable_use (hY.1 _ (by decide +kernel))) hce hcv hcl ?_
      refine lv_astore (lv' := [(5, .ref q9), (0, .ref (ga X 0)), (1, .int x1), (2, .int x2), (3, .int x3), (4, .ref (ga X 34))]) hx hb ddL_grantLeave_23 hl (by decide) rfl (fun ls hl => ?_)
      refine lv_iconst (v := (3 : Int32)) hx hb ddL_grantLeave_25 (by decide) ?_
      exact kw_iret hx hb hr hlocks hK hS h ddL_grantLeave_26 ⟨Nat.le_of_ble_eq_true rfl, Nat.le_of_ble_eq_true rfl⟩
    · refine vx_catch (name := "java/lang/UnsupportedOperationException") (E := "java/lang/UnsupportedOperationException") hown (tableOf [(0, 12, 15, 23), (0, 12, 19, 13), (0, 12, 23, 15)]) ⟨0, 12, 27, 35⟩ (tableOf []) (htab.trans rfl) (List.forall_mem_cons.mpr ⟨Or.inr ⟨by decide, "java/lang/IndexOutOfBoundsException", ht _ lk517, hZ.2.2.2.2.2.2 ("java/lang/UnsupportedOperationException", "java/lang/IndexOutOfBoundsException") (by decide +kernel)⟩, List.forall_mem_cons.mpr ⟨Or.inr ⟨by decide, "java/lang/IllegalArgumentException", ht _ lk398, hZ.2.2.2.2.2.2 ("java/lang/UnsupportedOperationException", "java/lang/IllegalArgumentException") (by decide +kernel)⟩, List.forall_mem_cons.mpr ⟨Or.inr ⟨by decide, "java/lang/IllegalStateException", ht _ lk399, hZ.2.2.2.2.2.2 ("java/lang/UnsupportedOperationException", "java/lang/IllegalStateException") (by decide +kernel)⟩, fun _ h9 => absurd h9 List.not_mem_nil⟩⟩⟩) (by decide) (by decide) (ht _ lk573) (castable_use (hY.1 _ (by decide +kernel))) hce hcv hcl ?_
      refine lv_astore (lv' := [(5, .ref q9), (0, .ref (ga X 0)), (1, .int x1), (2, .int x2), (3, .int x3), (4, .ref (ga X 34))]) hx hb ddL_grantLeave_27 hl (by decide) rfl (fun ls hl => ?_)
      refine lv_iconst (v := (4 : Int32)) hx hb ddL_grantLeave_29 (by decide) ?_
      exact kw_iret hx hb hr hlocks hK hS h ddL_grantLeave_30 ⟨Nat.le_of_ble_eq_true rfl, Nat.le_of_ble_eq_true rfl⟩
  · refine lv_i2l hx hb ddL_grantLeave_10 rfl ?_
    refine last_34 hx hb hK hS ddL_grantLeave_11 (fun H locs hS => ?_)
    obtain ⟨σ4, eσ4⟩ : ∃ y : Mem, y = (st σ1 34 0 r3) := ⟨_, rfl⟩
    rw [← eσ4] at hS
    replace h := h σ4 eσ4
    refine lv_goto (tgt := 31) hx hb ddL_grantLeave_12 (by decide) ?_
    refine lv_iconst (v := (0 : Int32)) hx hb ddL_grantLeave_31 (by decide) ?_
    exact kw_iret hx hb hr hlocks hK hS h ddL_grantLeave_32 ⟨Nat.le_of_ble_eq_true rfl, Nat.le_of_ble_eq_true rfl⟩

set_option maxHeartbeats 4000000 in
set_option maxRecDepth 100000 in
theorem c_L_endLeave (l : Launch) (X : GX) (hfl : l.stackTraces = false) {x1 x2 : Int32} {σ : Mem} {K : Int32 → Mem → Prop} (h : wp_L_endLeave x1 x2 σ K) : MH l X yL_endLeave cL_endLeave 5 ((Option.some Jvm.ClassFile.FieldType.int)) [(0, 10, 13, 23), (0, 10, 17, 45)] ({ frames := 9, cells := 3, slots := 18, locals := 165 } : Room) 3 18 [.ref (ga X 0), .int x1, .int x2, .ref (ga X 34)] σ K := by
  refine entH (by decide) (Nat.le_of_ble_eq_true rfl) ?_
  intro p e s m args below meth c A ls hx hb hr hlocks hml hown ht hK hZ hA hS hl hY htab
  have hown : s.vm.findClass "GuardRosterLaw" = some m.cls := hown
  have hl : lv_has ls 5 [(0, .ref (ga X 0)), (1, .int x1), (2, .int x2), (3, .ref (ga X 34))] := hl
  unfold wp_L_endLeave at h
  refine lv_aload_n hx hb ddL_endLeave_0 rfl (lv_at hl 3 rfl) ?_
  refine lv_iconst (v := (0 : Int32)) hx hb ddL_endLeave_1 (by decide) ?_
  refine lv_aload_n hx hb ddL_endLeave_2 rfl (lv_at hl 0 rfl) ?_
  refine lv_iload_n hx hb ddL_endLeave_3 rfl (lv_at hl 1 rfl) ?_
  refine lv_iload_n hx hb ddL_endLeave_4 rfl (lv_at hl 2 rfl) ?_
  refine kh_VI (As := [.int x1, .int x2]) (rest := [.int (0 : Int32), .ref (ga X 34)]) (c_X4_endLeave l X hfl h) mf_X4_endLeave lk782 hx hb hml hown ht hK hZ hS hA hY 0 0 rfl rfl rfl ⟨rfl, rfl⟩ ⟨Nat.le_of_ble_eq_true rfl, Nat.le_of_ble_eq_true rfl⟩ rfl hl.1 rfl (Nat.le_of_ble_eq_true rfl) ⟨Nat.le_of_ble_eq_true rfl, Nat.le_of_ble_eq_true rfl⟩ ddL_endLeave_5 (fun E9 σ9 H locs ce q9 hS h hce hcv hcl => ?_) (fun r3 σ1 H locs hS h => ?_)
  · rcases h with ⟨rfl, h⟩ | ⟨rfl, h⟩
    · refine vx_catch (name := "java/lang/IndexOutOfBoundsException") (E := "java/lang/IndexOutOfBoundsException") hown (tableOf []) ⟨0, 10, 13, 23⟩ (tableOf [(0, 10, 17, 45)]) (htab.trans rfl) (fun _ h9 => absurd h9 List.not_mem_nil) (by decide) (by decide) (ht _ lk517) (castable_use (hY.1 _ (by decide +kernel))) hce hcv hcl ?_
      refine lv_astore (lv' := [(4, .ref q9), (0, .ref (ga X 0)), (1, .int x1), (2, .int x2), (3, .ref (ga X 34))]) hx hb ddL_endLeave_13 hl (by decide) rfl (fun ls hl => ?_)
      refine lv_iconst (v := (1 : Int32)) hx hb ddL_endLeave_15 (by decide) ?_
      exact kw_iret hx hb hr hlocks hK hS h ddL_endLeave_16 ⟨Nat.le_of_ble_eq_true rfl, Nat.le_of_ble_eq_true rfl⟩
    · refine vx_catch (name := "java/util/NoSuchElementException") (E := "java/util/NoSuchElementException") hown (tableOf [(0, 10, 13, 23)]) ⟨0, 10, 17, 45⟩ (tableOf []) (htab.trans rfl) (List.forall_mem_cons.mpr ⟨Or.inr ⟨by decide, "java/lang/IndexOutOfBoundsException", ht _ lk517, hZ.2.2.2.2.2.2 ("java/util/NoSuchElementException", "java/lang/IndexOutOfBoundsException") (by decide +kernel)⟩, fun _ h9 => absurd h9 List.not_mem_nil⟩) (by decide) (by decide) (ht _ lk617) (castable_use (hY.1 _ (by decide +kernel))) hce hcv hcl ?_
      refine lv_astore (lv' := [(4, .ref q9), (0, .ref (ga X 0)), (1, .int x1), (2, .int x2), (3, .ref (ga X 34))]) hx hb ddL_endLeave_17 hl (by decide) rfl (fun ls hl => ?_)
      refine lv_iconst (v := (2 : Int32)) hx hb ddL_endLeave_19 (by decide) ?_
      exact kw_iret hx hb hr hlocks hK hS h ddL_endLeave_20 ⟨Nat.le_of_ble_eq_true rfl, Nat.le_of_ble_eq_true rfl⟩
  · refine lv_i2l hx hb ddL_endLeave_8 rfl ?_
    refine last_34 hx hb hK hS ddL_endLeave_9 (fun H locs hS => ?_)
    obtain ⟨σ4, eσ4⟩ : ∃ y : Mem, y = (st σ1 34 0 r3) := ⟨_, rfl⟩
    rw [← eσ4] at hS
    replace h := h σ4 eσ4
    refine lv_goto (tgt := 21) hx hb ddL_endLeave_10 (by decide) ?_
    refine lv_iconst (v := (0 : Int32)) hx hb ddL_endLeave_21 (by decide) ?_
    exact kw_iret hx hb hr hlocks hK hS h ddL_endLeave_22 ⟨Nat.le_of_ble_eq_true rfl, Nat.le_of_ble_eq_true rfl⟩

set_option maxHeartbeats 4000000 in
set_option maxRecDepth 100000 in
theorem c_L_isOnLeave (l : Launch) (X : GX) (hfl : l.stackTraces = false) {x1 x2 : Int32} {σ : Mem} {K : Int32 → Mem → Prop} (h : wp_L_isOnLeave x1 x2 σ K) : MH l X yL_isOnLeave cL_isOnLeave 5 ((Option.some Jvm.ClassFile.FieldType.int)) [(0, 17, 20, 23)] ({ frames := 9, cells := 2, slots := 12, locals := 155 } : Room) 2 12 [.ref (ga X 0), .int x1, .int x2, .ref (ga X 34)] σ K := by
  refine entH (by decide) (Nat.le_of_ble_eq_true rfl) ?_
  intro p e s m args below meth c A ls hx hb hr hlocks hml hown ht hK hZ hA hS hl hY htab
  have hown : s.vm.findClass "GuardRosterLaw" = some m.cls := hown
  have hl : lv_has ls 5 [(0, .ref (ga X 0)), (1, .int x1), (2, .int x2), (3, .ref (ga X 34))] := hl
  unfold wp_L_isOnLeave at h
  refine lv_aload_n hx hb ddL_isOnLeave_0 rfl (lv_at hl 3 rfl) ?_
  refine lv_iconst (v := (0 : Int32)) hx hb ddL_isOnLeave_1 (by decide) ?_
  refine lv_aload_n hx hb ddL_isOnLeave_2 rfl (lv_at hl 0 rfl) ?_
  refine lv_iload_n hx hb ddL_isOnLeave_3 rfl (lv_at hl 1 rfl) ?_
  refine lv_iload_n hx hb ddL_isOnLeave_4 rfl (lv_at hl 2 rfl) ?_
  refine kh_VI (As := [.int x1, .int x2]) (rest := [.int (0 : Int32), .ref (ga X 34)]) (c_X4_isOnLeave l X hfl h) mf_X4_isOnLeave lk796 hx hb hml hown ht hK hZ hS hA hY 0 0 rfl rfl rfl ⟨rfl, rfl⟩ ⟨Nat.le_of_ble_eq_true rfl, Nat.le_of_ble_eq_true rfl⟩ rfl hl.1 rfl (Nat.le_of_ble_eq_true rfl) ⟨Nat.le_of_ble_eq_true rfl, Nat.le_of_ble_eq_true rfl⟩ ddL_isOnLeave_5 (fun E9 σ9 H locs ce q9 hS h hce hcv hcl => ?_) (fun r3 σ1 H locs hS h => ?_)
  · rcases h with ⟨rfl, h⟩
    · refine vx_catch (name := "java/lang/IndexOutOfBoundsException") (E := "java/lang/IndexOutOfBoundsException") hown (tableOf []) ⟨0, 17, 20, 23⟩ (tableOf []) (htab.trans rfl) (fun _ h9 => absurd h9 List.not_mem_nil) (by decide) (by decide) (ht _ lk517) (castable_use (hY.1 _ (by decide +kernel))) hce hcv hcl ?_
      refine lv_astore (lv' := [(4, .ref q9), (0, .ref (ga X 0)), (1, .int x1), (2, .int x2), (3, .ref (ga X 34))]) hx hb ddL_isOnLeave_20 hl (by decide) rfl (fun ls hl => ?_)
      refine lv_iconst (v := (1 : Int32)) hx hb ddL_isOnLeave_22 (by decide) ?_
      exact kw_iret hx hb hr hlocks hK hS h ddL_isOnLeave_23 ⟨Nat.le_of_ble_eq_true rfl, Nat.le_of_ble_eq_true rfl⟩
  · refine lv_if_eq (tgt := 15) hx hb ddL_isOnLeave_8 (by decide) (fun c4 => ?_) (fun c4 => ?_)
    · replace h := h.1 c4
      refine lv_lconst (v := (0 : Int32).toInt64) hx hb ddL_isOnLeave_15 (by decide) ?_
      refine last_34 hx hb hK hS ddL_isOnLeave_16 (fun H locs hS => ?_)
      obtain ⟨σ5, eσ5⟩ : ∃ y : Mem, y = (st σ1 34 0 (0 : Int32)) := ⟨_, rfl⟩
      rw [← eσ5] at hS
      replace h := h σ5 eσ5
      refine lv_goto (tgt := 24) hx hb ddL_isOnLeave_17 (by decide) ?_
      refine lv_iconst (v := (0 : Int32)) hx hb ddL_isOnLeave_24 (by decide) ?_
      exact kw_iret hx hb hr hlocks hK hS h ddL_isOnLeave_25 ⟨Nat.le_of_ble_eq_true rfl, Nat.le_of_ble_eq_true rfl⟩
    · replace h := h.2 c4
      refine lv_lconst (v := (1 : Int32).toInt64) hx hb ddL_isOnLeave_11 (by decide) ?_
      refine lv_goto (tgt := 16) hx hb ddL_isOnLeave_12 (by decide) ?_
      refine last_34 hx hb hK hS ddL_isOnLeave_16 (fun H locs hS => ?_)
      obtain ⟨σ6, eσ6⟩ : ∃ y : Mem, y = (st σ1 34 0 (1 : Int32)) := ⟨_, rfl⟩
      rw [← eσ6] at hS
      replace h := h σ6 eσ6
      refine lv_goto (tgt := 24) hx hb ddL_isOnLeave_17 (by decide) ?_
      refine lv_iconst (v := (0 : Int32)) hx hb ddL_isOnLeave_24 (by decide) ?_
      exact kw_iret hx hb hr hlocks hK hS h ddL_isOnLeave_25 ⟨Nat.le_of_ble_eq_true rfl, Nat.le_of_ble_eq_true rfl⟩

set_option maxHeartbeats 4000000 in
set_option maxRecDepth 100000 in
theorem c_L_leaveSlots (l : Launch) (X : GX) (hfl : l.stackTraces = false) {x1 : Int32} {σ : Mem} {K : Int32 → Mem → Prop} (h : wp_L_leaveSlots x1 σ K) : MH l X yL_leaveSlots cL_leaveSlots 4 ((Option.some Jvm.ClassFile.FieldType.int)) [(0, 9, 12, 23)] ({ frames := 8, cells := 1, slots := 6, locals := 132 } : Room) 1 6 [.ref (ga X 0), .int x1, .ref (ga X 34)] σ K := by
  refine entH (by decide) (Nat.le_of_ble_eq_true rfl) ?_
  intro p e s m args below meth c A ls hx hb hr hlocks hml hown ht hK hZ hA hS hl hY htab
  have hown : s.vm.findClass "GuardRosterLaw" = some m.cls := hown
  have hl : lv_has ls 4 [(0, .ref (ga X 0)), (1, .int x1), (2, .ref (ga X 34))] := hl
  unfold wp_L_leaveSlots at h
  refine lv_aload_n hx hb ddL_leaveSlots_0 rfl (lv_at hl 2 rfl) ?_
  refine lv_iconst (v := (0 : Int32)) hx hb ddL_leaveSlots_1 (by decide) ?_
  refine lv_aload_n hx hb ddL_leaveSlots_2 rfl (lv_at hl 0 rfl) ?_
  refine lv_iload_n hx hb ddL_leaveSlots_3 rfl (lv_at hl 1 rfl) ?_
  refine kh_VI (As := [.int x1]) (rest := [.int (0 : Int32), .ref (ga X 34)]) (c_X4_leaveSlots l X hfl h) mf_X4_leaveSlots lk803 hx hb hml hown ht hK hZ hS hA hY 0 0 rfl rfl rfl ⟨rfl, rfl⟩ ⟨Nat.le_of_ble_eq_true rfl, Nat.le_of_ble_eq_true rfl⟩ rfl hl.1 rfl (Nat.le_of_ble_eq_true rfl) ⟨Nat.le_of_ble_eq_true rfl, Nat.le_of_ble_eq_true rfl⟩ ddL_leaveSlots_4 (fun E9 σ9 H locs ce q9 hS h hce hcv hcl => ?_) (fun r3 σ1 H locs hS h => ?_)
  · rcases h with ⟨rfl, h⟩
    · refine vx_catch (name := "java/lang/IndexOutOfBoundsException") (E := "java/lang/IndexOutOfBoundsException") hown (tableOf []) ⟨0, 9, 12, 23⟩ (tableOf []) (htab.trans rfl) (fun _ h9 => absurd h9 List.not_mem_nil) (by decide) (by decide) (ht _ lk517) (castable_use (hY.1 _ (by decide +kernel))) hce hcv hcl ?_
      refine lv_astore_n (lv' := [(3, .ref q9), (0, .ref (ga X 0)), (1, .int x1), (2, .ref (ga X 34))]) hx hb ddL_leaveSlots_12 rfl hl (by decide) rfl (fun ls hl => ?_)
      refine lv_iconst (v := (1 : Int32)) hx hb ddL_leaveSlots_13 (by decide) ?_
      exact kw_iret hx hb hr hlocks hK hS h ddL_leaveSlots_14 ⟨Nat.le_of_ble_eq_true rfl, Nat.le_of_ble_eq_true rfl⟩
  · refine lv_i2l hx hb ddL_leaveSlots_7 rfl ?_
    refine last_34 hx hb hK hS ddL_leaveSlots_8 (fun H locs hS => ?_)
    obtain ⟨σ4, eσ4⟩ : ∃ y : Mem, y = (st σ1 34 0 r3) := ⟨_, rfl⟩
    rw [← eσ4] at hS
    replace h := h σ4 eσ4
    refine lv_goto (tgt := 15) hx hb ddL_leaveSlots_9 (by decide) ?_
    refine lv_iconst (v := (0 : Int32)) hx hb ddL_leaveSlots_15 (by decide) ?_
    exact kw_iret hx hb hr hlocks hK hS h ddL_leaveSlots_16 ⟨Nat.le_of_ble_eq_true rfl, Nat.le_of_ble_eq_true rfl⟩

set_option maxHeartbeats 4000000 in
set_option maxRecDepth 100000 in
theorem c_L_addRations (l : Launch) (X : GX) (hfl : l.stackTraces = false) {x1 : Int32} {σ : Mem} {K : Int32 → Mem → Prop} (h : wp_L_addRations x1 σ K) : MH l X yL_addRations cL_addRations 4 ((Option.some Jvm.ClassFile.FieldType.int)) [(0, 9, 12, 13), (0, 9, 15, 15)] ({ frames := 8, cells := 1, slots := 6, locals := 164 } : Room) 1 6 [.ref (ga X 0), .int x1, .ref (ga X 34)] σ K := by
  refine entH (by decide) (Nat.le_of_ble_eq_true rfl) ?_
  intro p e s m args below meth c A ls hx hb hr hlocks hml hown ht hK hZ hA hS hl hY htab
  have hown : s.vm.findClass "GuardRosterLaw" = some m.cls := hown
  have hl : lv_has ls 4 [(0, .ref (ga X 0)), (1, .int x1), (2, .ref (ga X 34))] := hl
  unfold wp_L_addRations at h
  refine lv_aload_n hx hb ddL_addRations_0 rfl (lv_at hl 2 rfl) ?_
  refine lv_iconst (v := (0 : Int32)) hx hb ddL_addRations_1 (by decide) ?_
  refine lv_aload_n hx hb ddL_addRations_2 rfl (lv_at hl 0 rfl) ?_
  refine lv_iload_n hx hb ddL_addRations_3 rfl (lv_at hl 1 rfl) ?_
  refine kh_VI (As := [.int x1]) (rest := [.int (0 : Int32), .ref (ga X 34)]) (c_X4_addRations l X hfl h) mf_X4_addRations lk810 hx hb hml hown ht hK hZ hS hA hY 0 0 rfl rfl rfl ⟨rfl, rfl⟩ ⟨Nat.le_of_ble_eq_true rfl, Nat.le_of_ble_eq_true rfl⟩ rfl hl.1 rfl (Nat.le_of_ble_eq_true rfl) ⟨Nat.le_of_ble_eq_true rfl, Nat.le_of_ble_eq_true rfl⟩ ddL_addRations_4 (fun E9 σ9 H locs ce q9 hS h hce hcv hcl => ?_) (fun r3 σ1 H locs hS h => ?_)
  · rcases h with ⟨rfl, h⟩ | ⟨rfl, h⟩
    · refine vx_catch (name := "java/lang/IllegalArgumentException") (E := "java/lang/IllegalArgumentException") hown (tableOf []) ⟨0, 9, 12, 13⟩ (tableOf [(0, 9, 15, 15)]) (htab.trans rfl) (fun _ h9 => absurd h9 List.not_mem_nil) (by decide) (by decide) (ht _ lk398) (castable_use (hY.1 _ (by decide +kernel))) hce hcv hcl ?_
      refine lv_astore_n (lv' := [(3, .ref q9), (0, .ref (ga X 0)), (1, .int x1), (2, .ref (ga X 34))]) hx hb ddL_addRations_12 rfl hl (by decide) rfl (fun ls hl => ?_)
      refine lv_iconst (v := (1 : Int32)) hx hb ddL_addRations_13 (by decide) ?_
      exact kw_iret hx hb hr hlocks hK hS h ddL_addRations_14 ⟨Nat.le_of_ble_eq_true rfl, Nat.le_of_ble_eq_true rfl⟩
    · refine vx_catch (name := "java/lang/IllegalStateException") (E := "java/lang/IllegalStateException") hown (tableOf [(0, 9, 12, 13)]) ⟨0, 9, 15, 15⟩ (tableOf []) (htab.trans rfl) (List.forall_mem_cons.mpr ⟨Or.inr ⟨by decide, "java/lang/IllegalArgumentException", ht _ lk398, hZ.2.2.2.2.2.2 ("java/lang/IllegalStateException", "java/lang/IllegalArgumentException") (by decide +kernel)⟩, fun _ h9 => absurd h9 List.not_mem_nil⟩) (by decide) (by decide) (ht _ lk399) (castable_use (hY.1 _ (by decide +kernel))) hce hcv hcl ?_
      refine lv_astore_n (lv' := [(3, .ref q9), (0, .ref (ga X 0)), (1, .int x1), (2, .ref (ga X 34))]) hx hb ddL_addRations_15 rfl hl (by decide) rfl (fun ls hl => ?_)
      refine lv_iconst (v := (2 : Int32)) hx hb ddL_addRations_16 (by decide) ?_
      exact kw_iret hx hb hr hlocks hK hS h ddL_addRations_17 ⟨Nat.le_of_ble_eq_true rfl, Nat.le_of_ble_eq_true rfl⟩
  · refine lv_i2l hx hb ddL_addRations_7 rfl ?_
    refine last_34 hx hb hK hS ddL_addRations_8 (fun H locs hS => ?_)
    obtain ⟨σ4, eσ4⟩ : ∃ y : Mem, y = (st σ1 34 0 r3) := ⟨_, rfl⟩
    rw [← eσ4] at hS
    replace h := h σ4 eσ4
    refine lv_goto (tgt := 18) hx hb ddL_addRations_9 (by decide) ?_
    refine lv_iconst (v := (0 : Int32)) hx hb ddL_addRations_18 (by decide) ?_
    exact kw_iret hx hb hr hlocks hK hS h ddL_addRations_19 ⟨Nat.le_of_ble_eq_true rfl, Nat.le_of_ble_eq_true rfl⟩

set_option maxHeartbeats 4000000 in
set_option maxRecDepth 100000 in
theorem c_L_passSlots (l : Launch) (X : GX) (hfl : l.stackTraces = false) {x1 : Int32} {σ : Mem} {K : Int32 → Mem → Prop} (h : wp_L_passSlots x1 σ K) : MH l X yL_passSlots cL_passSlots 4 ((Option.some Jvm.ClassFile.FieldType.int)) [(0, 9, 12, 13), (0, 9, 15, 15)] ({ frames := 8, cells := 1, slots := 6, locals := 164 } : Room) 1 6 [.ref (ga X 0), .int x1, .ref (ga X 34)] σ K := by
  refine entH (by decide) (Nat.le_of_ble_eq_true rfl) ?_
  intro p e s m args below meth c A ls hx hb hr hlocks hml hown ht hK hZ hA hS hl hY htab
  have hown : s.vm.findClass "GuardRosterLaw" = some m.cls := hown
  have hl : lv_has ls 4 [(0, .ref (ga X 0)), (1, .int x1), (2, .ref (ga X 34))] := hl
  unfold wp_L_passSlots at h
  refine lv_aload_n hx hb ddL_passSlots_0 rfl (lv_at hl 2 rfl) ?_
  refine lv_iconst (v := (0 : Int32)) hx hb ddL_passSlots_1 (by decide) ?_
  refine lv_aload_n hx hb ddL_passSlots_2 rfl (lv_at hl 0 rfl) ?_
  refine lv_iload_n hx hb ddL_passSlots_3 rfl (lv_at hl 1 rfl) ?_
  refine kh_VI (As := [.int x1]) (rest := [.int (0 : Int32), .ref (ga X 34)]) (c_X4_passSlots l X hfl h) mf_X4_passSlots lk825 hx hb hml hown ht hK hZ hS hA hY 0 0 rfl rfl rfl ⟨rfl, rfl⟩ ⟨Nat.le_of_ble_eq_true rfl, Nat.le_of_ble_eq_true rfl⟩ rfl hl.1 rfl (Nat.le_of_ble_eq_true rfl) ⟨Nat.le_of_ble_eq_true rfl, Nat.le_of_ble_eq_true rfl⟩ ddL_passSlots_4 (fun E9 σ9 H locs ce q9 hS h hce hcv hcl => ?_) (fun r3 σ1 H locs hS h => ?_)
  · rcases h with ⟨rfl, h⟩ | ⟨rfl, h⟩
    · refine vx_catch (name := "java/lang/IllegalArgumentException") (E := "java/lang/IllegalArgumentException") hown (tableOf []) ⟨0, 9, 12, 13⟩ (tableOf [(0, 9, 15, 15)]) (htab.trans rfl) (fun _ h9 => absurd h9 List.not_mem_nil) (by decide) (by decide) (ht _ lk398) (castable_use (hY.1 _ (by decide +kernel))) hce hcv hcl ?_
      refine lv_astore_n (lv' := [(3, .ref q9), (0, .ref (ga X 0)), (1, .int x1), (2, .ref (ga X 34))]) hx hb ddL_passSlots_12 rfl hl (by decide) rfl (fun ls hl => ?_)
      refine lv_iconst (v := (1 : Int32)) hx hb ddL_passSlots_13 (by decide) ?_
      exact kw_iret hx hb hr hlocks hK hS h ddL_passSlots_14 ⟨Nat.le_of_ble_eq_true rfl, Nat.le_of_ble_eq_true rfl⟩
    · refine vx_catch (name := "java/lang/IllegalStateException") (E := "java/lang/IllegalStateException") hown (tableOf [(0, 9, 12, 13)]) ⟨0, 9, 15, 15⟩ (tableOf []) (htab.trans rfl) (List.forall_mem_cons.mpr ⟨Or.inr ⟨by decide, "java/lang/IllegalArgumentException", ht _ lk398, hZ.2.2.2.2.2.2 ("java/lang/IllegalStateException", "java/lang/IllegalArgumentException") (by decide +kernel)⟩, fun _ h9 => absurd h9 List.not_mem_nil⟩) (by decide) (by decide) (ht _ lk399) (castable_use (hY.1 _ (by decide +kernel))) hce hcv hcl ?_
      refine lv_astore_n (lv' := [(3, .ref q9), (0, .ref (ga X 0)), (1, .int x1), (2, .ref (ga X 34))]) hx hb ddL_passSlots_15 rfl hl (by decide) rfl (fun ls hl => ?_)
      refine lv_iconst (v := (2 : Int32)) hx hb ddL_passSlots_16 (by decide) ?_
      exact kw_iret hx hb hr hlocks hK hS h ddL_passSlots_17 ⟨Nat.le_of_ble_eq_true rfl, Nat.le_of_ble_eq_true rfl⟩
  · refine lv_i2l hx hb ddL_passSlots_7 rfl ?_
    refine last_34 hx hb hK hS ddL_passSlots_8 (fun H locs hS => ?_)
    obtain ⟨σ4, eσ4⟩ : ∃ y : Mem, y = (st σ1 34 0 r3) := ⟨_, rfl⟩
    rw [← eσ4] at hS
    replace h := h σ4 eσ4
    refine lv_goto (tgt := 18) hx hb ddL_passSlots_9 (by decide) ?_
    refine lv_iconst (v := (0 : Int32)) hx hb ddL_passSlots_18 (by decide) ?_
    exact kw_iret hx hb hr hlocks hK hS h ddL_passSlots_19 ⟨Nat.le_of_ble_eq_true rfl, Nat.le_of_ble_eq_true rfl⟩

set_option maxHeartbeats 4000000 in
set_option maxRecDepth 100000 in
theorem c_L_refusalReason (l : Launch) (X : GX) (hfl : l.stackTraces = false) {σ : Mem} {K : Int32 → Mem → Prop} (h : wp_L_refusalReason σ K) : MH l X yL_refusalReason cL_refusalReason 3 ((Option.some Jvm.ClassFile.FieldType.int)) [(0, 8, 11, 45)] ({ frames := 8, cells := 1, slots := 6, locals := 130 } : Room) 1 6 [.ref (ga X 0), .ref (ga X 34)] σ K := by
  refine entH (by decide) (Nat.le_of_ble_eq_true rfl) ?_
  intro p e s m args below meth c A ls hx hb hr hlocks hml hown ht hK hZ hA hS hl hY htab
  have hown : s.vm.findClass "GuardRosterLaw" = some m.cls := hown
  have hl : lv_has ls 3 [(0, .ref (ga X 0)), (1, .ref (ga X 34))] := hl
  unfold wp_L_refusalReason at h
  refine lv_aload_n hx hb ddL_refusalReason_0 rfl (lv_at hl 1 rfl) ?_
  refine lv_iconst (v := (0 : Int32)) hx hb ddL_refusalReason_1 (by decide) ?_
  refine lv_aload_n hx hb ddL_refusalReason_2 rfl (lv_at hl 0 rfl) ?_
  refine kh_VI (As := []) (rest := [.int (0 : Int32), .ref (ga X 34)]) (c_X4_refusalReason l X hfl h) mf_X4_refusalReason lk844 hx hb hml hown ht hK hZ hS hA hY 0 0 rfl rfl rfl ⟨rfl, rfl⟩ ⟨Nat.le_of_ble_eq_true rfl, Nat.le_of_ble_eq_true rfl⟩ rfl hl.1 rfl (Nat.le_of_ble_eq_true rfl) ⟨Nat.le_of_ble_eq_true rfl, Nat.le_of_ble_eq_true rfl⟩ ddL_refusalReason_3 (fun E9 σ9 H locs ce q9 hS h hce hcv hcl => ?_) (fun r3 σ1 H locs hS h => ?_)
  · rcases h with ⟨rfl, h⟩
    · refine vx_catch (name := "java/util/NoSuchElementException") (E := "java/util/NoSuchElementException") hown (tableOf []) ⟨0, 8, 11, 45⟩ (tableOf []) (htab.trans rfl) (fun _ h9 => absurd h9 List.not_mem_nil) (by decide) (by decide) (ht _ lk617) (castable_use (hY.1 _ (by decide +kernel))) hce hcv hcl ?_
      refine lv_astore_n (lv' := [(2, .ref q9), (0, .ref (ga X 0)), (1, .ref (ga X 34))]) hx hb ddL_refusalReason_11 rfl hl (by decide) rfl (fun ls hl => ?_)
      refine lv_iconst (v := (1 : Int32)) hx hb ddL_refusalReason_12 (by decide) ?_
      exact kw_iret hx hb hr hlocks hK hS h ddL_refusalReason_13 ⟨Nat.le_of_ble_eq_true rfl, Nat.le_of_ble_eq_true rfl⟩
  · refine lv_i2l hx hb ddL_refusalReason_6 rfl ?_
    refine last_34 hx hb hK hS ddL_refusalReason_7 (fun H locs hS => ?_)
    obtain ⟨σ4, eσ4⟩ : ∃ y : Mem, y = (st σ1 34 0 r3) := ⟨_, rfl⟩
    rw [← eσ4] at hS
    replace h := h σ4 eσ4
    refine lv_goto (tgt := 14) hx hb ddL_refusalReason_8 (by decide) ?_
    refine lv_iconst (v := (0 : Int32)) hx hb ddL_refusalReason_14 (by decide) ?_
    exact kw_iret hx hb hr hlocks hK hS h ddL_refusalReason_15 ⟨Nat.le_of_ble_eq_true rfl, Nat.le_of_ble_eq_true rfl⟩

set_option maxHeartbeats 4000000 in
set_option maxRecDepth 100000 in
theorem c_L_refusalDetail (l : Launch) (X : GX) (hfl : l.stackTraces = false) {σ : Mem} {K : Int32 → Mem → Prop} (h : wp_L_refusalDetail σ K) : MH l X yL_refusalDetail cL_refusalDetail 3 ((Option.some Jvm.ClassFile.FieldType.int)) [(0, 8, 11, 45)] ({ frames := 8, cells := 1, slots := 6, locals := 130 } : Room) 1 6 [.ref (ga X 0), .ref (ga X 34)] σ K := by
  refine entH (by decide) (Nat.le_of_ble_eq_true rfl) ?_
  intro p e s m args below meth c A ls hx hb hr hlocks hml hown ht hK hZ hA hS hl hY htab
  have hown : s.vm.findClass "GuardRosterLaw" = some m.cls := hown
  have hl : lv_has ls 3 [(0, .ref (ga X 0)), (1, .ref (ga X 34))] := hl
  unfold wp_L_refusalDetail at h
  refine lv_aload_n hx hb ddL_refusalDetail_0 rfl (lv_at hl 1 rfl) ?_
  refine lv_iconst (v := (0 : Int32)) hx hb ddL_refusalDetail_1 (by decide) ?_
  refine lv_aload_n hx hb ddL_refusalDetail_2 rfl (lv_at hl 0 rfl) ?_
  refine kh_VI (As := []) (rest := [.int (0 : Int32), .ref (ga X 34)]) (c_X4_refusalDetail l X hfl h) mf_X4_refusalDetail lk856 hx hb hml hown ht hK hZ hS hA hY 0 0 rfl rfl rfl ⟨rfl, rfl⟩ ⟨Nat.le_of_ble_eq_true rfl, Nat.le_of_ble_eq_true rfl⟩ rfl hl.1 rfl (Nat.le_of_ble_eq_true rfl) ⟨Nat.le_of_ble_eq_true rfl, Nat.le_of_ble_eq_true rfl⟩ ddL_refusalDetail_3 (fun E9 σ9 H locs ce q9 hS h hce hcv hcl => ?_) (fun r3 σ1 H locs hS h => ?_)
  · rcases h with ⟨rfl, h⟩
    · refine vx_catch (name := "java/util/NoSuchElementException") (E := "java/util/NoSuchElementException") hown (tableOf []) ⟨0, 8, 11, 45⟩ (tableOf []) (htab.trans rfl) (fun _ h9 => absurd h9 List.not_mem_nil) (by decide) (by decide) (ht _ lk617) (castable_use (hY.1 _ (by decide +kernel))) hce hcv hcl ?_
      refine lv_astore_n (lv' := [(2, .ref q9), (0, .ref (ga X 0)), (1, .ref (ga X 34))]) hx hb ddL_refusalDetail_11 rfl hl (by decide) rfl (fun ls hl => ?_)
      refine lv_iconst (v := (1 : Int32)) hx hb ddL_refusalDetail_12 (by decide) ?_
      exact kw_iret hx hb hr hlocks hK hS h ddL_refusalDetail_13 ⟨Nat.le_of_ble_eq_true rfl, Nat.le_of_ble_eq_true rfl⟩
  · refine lv_i2l hx hb ddL_refusalDetail_6 rfl ?_
    refine last_34 hx hb hK hS ddL_refusalDetail_7 (fun H locs hS => ?_)
    obtain ⟨σ4, eσ4⟩ : ∃ y : Mem, y = (st σ1 34 0 r3) := ⟨_, rfl⟩
    rw [← eσ4] at hS
    replace h := h σ4 eσ4
    refine lv_goto (tgt := 14) hx hb ddL_refusalDetail_8 (by decide) ?_
    refine lv_iconst (v := (0 : Int32)) hx hb ddL_refusalDetail_14 (by decide) ?_
    exact kw_iret hx hb hr hlocks hK hS h ddL_refusalDetail_15 ⟨Nat.le_of_ble_eq_true rfl, Nat.le_of_ble_eq_true rfl⟩

set_option maxHeartbeats 4000000 in
set_option maxRecDepth 100000 in
theorem c_L_meanDuties (l : Launch) (X : GX) (hfl : l.stackTraces = false) {σ : Mem} {K : Int32 → Mem → Prop} (h : wp_L_meanDuties σ K) : MH l X yL_meanDuties cL_meanDuties 3 ((Option.some Jvm.ClassFile.FieldType.int)) [(0, 7, 10, 111)] ({ frames := 7, cells := 1, slots := 6, locals := 111 } : Room) 1 6 [.ref (ga X 0), .ref (ga X 35)] σ K := by
  refine entH (by decide) (Nat.le_of_ble_eq_true rfl) ?_
  intro p e s m args below meth c A ls hx hb hr hlocks hml hown ht hK hZ hA hS hl hY htab
  have hown : s.vm.findClass "GuardRosterLaw" = some m.cls := hown
  have hl : lv_has ls 3 [(0, .ref (ga X 0)), (1, .ref (ga X 35))] := hl
  unfold wp_L_meanDuties at h
  refine lv_aload_n hx hb ddL_meanDuties_0 rfl (lv_at hl 1 rfl) ?_
  refine lv_iconst (v := (0 : Int32)) hx hb ddL_meanDuties_1 (by decide) ?_
  refine lv_aload_n hx hb ddL_meanDuties_2 rfl (lv_at hl 0 rfl) ?_
  refine kh_VD (As := []) (rest := [.int (0 : Int32), .ref (ga X 35)]) (c_X4_meanDuties l X hfl h) mf_X4_meanDuties lk877 hx hb hml hown ht hK hZ hS hA hY 0 0 rfl rfl rfl ⟨rfl, rfl⟩ ⟨Nat.le_of_ble_eq_true rfl, Nat.le_of_ble_eq_true rfl⟩ rfl hl.1 rfl (Nat.le_of_ble_eq_true rfl) ⟨Nat.le_of_ble_eq_true rfl, Nat.le_of_ble_eq_true rfl⟩ ddL_meanDuties_3 (fun E9 σ9 H locs ce q9 hS h hce hcv hcl => ?_) (fun r3 σ1 H locs hS h => ?_)
  · rcases h with ⟨rfl, h⟩
    · refine vx_catch (name := "java/lang/ArithmeticException") (E := "java/lang/ArithmeticException") hown (tableOf []) ⟨0, 7, 10, 111⟩ (tableOf []) (htab.trans rfl) (fun _ h9 => absurd h9 List.not_mem_nil) (by decide) (by decide) (ht _ lk863) (castable_use (hY.1 _ (by decide +kernel))) hce hcv hcl ?_
      refine lv_astore_n (lv' := [(2, .ref q9), (0, .ref (ga X 0)), (1, .ref (ga X 35))]) hx hb ddL_meanDuties_10 rfl hl (by decide) rfl (fun ls hl => ?_)
      refine lv_iconst (v := (1 : Int32)) hx hb ddL_meanDuties_11 (by decide) ?_
      exact kw_iret hx hb hr hlocks hK hS h ddL_meanDuties_12 ⟨Nat.le_of_ble_eq_true rfl, Nat.le_of_ble_eq_true rfl⟩
  · obtain ⟨k9, a9, b9, hv9, h⟩ := h
    refine dast_35 hx hb hK hS hv9 ddL_meanDuties_6 (fun H locs hS => ?_)
    obtain ⟨σ4, eσ4⟩ : ∃ y : Mem, y = (st (st (st σ1 35 0 k9) 35 1 a9) 35 2 b9) := ⟨_, rfl⟩
    rw [← eσ4] at hS
    replace h := h σ4 eσ4
    refine lv_goto (tgt := 13) hx hb ddL_meanDuties_7 (by decide) ?_
    refine lv_iconst (v := (0 : Int32)) hx hb ddL_meanDuties_13 (by decide) ?_
    exact kw_iret hx hb hr hlocks hK hS h ddL_meanDuties_14 ⟨Nat.le_of_ble_eq_true rfl, Nat.le_of_ble_eq_true rfl⟩

set_option maxHeartbeats 4000000 in
set_option maxRecDepth 100000 in
theorem c_L_coveredFraction (l : Launch) (X : GX) (hfl : l.stackTraces = false) {σ : Mem} {K : Int32 → Mem → Prop} (h : wp_L_coveredFraction σ K) : MH l X yL_coveredFraction cL_coveredFraction 3 ((Option.some Jvm.ClassFile.FieldType.int)) [(0, 8, 11, 111)] ({ frames := 7, cells := 1, slots := 6, locals := 111 } : Room) 1 6 [.ref (ga X 0), .ref (ga X 35)] σ K := by
  refine entH (by decide) (Nat.le_of_ble_eq_true rfl) ?_
  intro p e s m args below meth c A ls hx hb hr hlocks hml hown ht hK hZ hA hS hl hY htab
  have hown : s.vm.findClass "GuardRosterLaw" = some m.cls := hown
  have hl : lv_has ls 3 [(0, .ref (ga X 0)), (1, .ref (ga X 35))] := hl
  unfold wp_L_coveredFraction at h
  refine lv_aload_n hx hb ddL_coveredFraction_0 rfl (lv_at hl 1 rfl) ?_
  refine lv_iconst (v := (0 : Int32)) hx hb ddL_coveredFraction_1 (by decide) ?_
  refine lv_aload_n hx hb ddL_coveredFraction_2 rfl (lv_at hl 0 rfl) ?_
  refine kh_VF (As := []) (rest := [.int (0 : Int32), .ref (ga X 35)]) (c_X4_coveredFraction l X hfl h) mf_X4_coveredFraction lk887 hx hb hml hown ht hK hZ hS hA hY 0 0 rfl rfl rfl ⟨rfl, rfl⟩ ⟨Nat.le_of_ble_eq_true rfl, Nat.le_of_ble_eq_true rfl⟩ rfl hl.1 rfl (Nat.le_of_ble_eq_true rfl) ⟨Nat.le_of_ble_eq_true rfl, Nat.le_of_ble_eq_true rfl⟩ ddL_coveredFraction_3 (fun E9 σ9 H locs ce q9 hS h hce hcv hcl => ?_) (fun r3 σ1 H locs hS h => ?_)
  · rcases h with ⟨rfl, h⟩
    · refine vx_catch (name := "java/lang/ArithmeticException") (E := "java/lang/ArithmeticException") hown (tableOf []) ⟨0, 8, 11, 111⟩ (tableOf []) (htab.trans rfl) (fun _ h9 => absurd h9 List.not_mem_nil) (by decide) (by decide) (ht _ lk863) (castable_use (hY.1 _ (by decide +kernel))) hce hcv hcl ?_
      refine lv_astore_n (lv' := [(2, .ref q9), (0, .ref (ga X 0)), (1, .ref (ga X 35))]) hx hb ddL_coveredFraction_11 rfl hl (by decide) rfl (fun ls hl => ?_)
      refine lv_iconst (v := (1 : Int32)) hx hb ddL_coveredFraction_12 (by decide) ?_
      exact kw_iret hx hb hr hlocks hK hS h ddL_coveredFraction_13 ⟨Nat.le_of_ble_eq_true rfl, Nat.le_of_ble_eq_true rfl⟩
  · refine lv_f2d hx hb ddL_coveredFraction_6 h.1 ?_
    replace h := h.2
    obtain ⟨k9, a9, b9, hv9, h⟩ := h
    refine dast_35 hx hb hK hS hv9 ddL_coveredFraction_7 (fun H locs hS => ?_)
    obtain ⟨σ4, eσ4⟩ : ∃ y : Mem, y = (st (st (st σ1 35 0 k9) 35 1 a9) 35 2 b9) := ⟨_, rfl⟩
    rw [← eσ4] at hS
    replace h := h σ4 eσ4
    refine lv_goto (tgt := 14) hx hb ddL_coveredFraction_8 (by decide) ?_
    refine lv_iconst (v := (0 : Int32)) hx hb ddL_coveredFraction_14 (by decide) ?_
    exact kw_iret hx hb hr hlocks hK hS h ddL_coveredFraction_15 ⟨Nat.le_of_ble_eq_true rfl, Nat.le_of_ble_eq_true rfl⟩

set_option maxHeartbeats 4000000 in
set_option maxRecDepth 100000 in
theorem c_L_writeSlot (l : Launch) (X : GX) (hfl : l.stackTraces = false) {x1 : Int32} {σ : Mem} {K : Int32 → Mem → Prop} (h : wp_L_writeSlot x1 σ K) : MH l X yL_writeSlot cL_writeSlot 4 ((Option.some Jvm.ClassFile.FieldType.int)) [(0, 9, 12, 23)] ({ frames := 8, cells := 1, slots := 6, locals := 133 } : Room) 1 6 [.ref (ga X 0), .int x1, .ref (ga X 34)] σ K := by
  refine entH (by decide) (Nat.le_of_ble_eq_true rfl) ?_
  intro p e s m args below meth c A ls hx hb hr hlocks hml hown ht hK hZ hA hS hl hY htab
  have hown : s.vm.findClass "GuardRosterLaw" = some m.cls := hown
  have hl : lv_has ls 4 [(0, .ref (ga X 0)), (1, .int x1), (2, .ref (ga X 34))] := hl
  unfold wp_L_writeSlot at h
  refine lv_aload_n hx hb ddL_writeSlot_0 rfl (lv_at hl 2 rfl) ?_
  refine lv_iconst (v := (0 : Int32)) hx hb ddL_writeSlot_1 (by decide) ?_
  refine lv_aload_n hx hb ddL_writeSlot_2 rfl (lv_at hl 0 rfl) ?_
  refine lv_iload_n hx hb ddL_writeSlot_3 rfl (lv_at hl 1 rfl) ?_
  refine kh_VI (As := [.int x1]) (rest := [.int (0 : Int32), .ref (ga X 34)]) (c_X4_writeSlot l X hfl h) mf_X4_writeSlot lk895 hx hb hml hown ht hK hZ hS hA hY 0 0 rfl rfl rfl ⟨rfl, rfl⟩ ⟨Nat.le_of_ble_eq_true rfl, Nat.le_of_ble_eq_true rfl⟩ rfl hl.1 rfl (Nat.le_of_ble_eq_true rfl) ⟨Nat.le_of_ble_eq_true rfl, Nat.le_of_ble_eq_true rfl⟩ ddL_writeSlot_4 (fun E9 σ9 H locs ce q9 hS h hce hcv hcl => ?_) (fun r3 σ1 H locs hS h => ?_)
  · rcases h with ⟨rfl, h⟩
    · refine vx_catch (name := "java/lang/IndexOutOfBoundsException") (E := "java/lang/IndexOutOfBoundsException") hown (tableOf []) ⟨0, 9, 12, 23⟩ (tableOf []) (htab.trans rfl) (fun _ h9 => absurd h9 List.not_mem_nil) (by decide) (by decide) (ht _ lk517) (castable_use (hY.1 _ (by decide +kernel))) hce hcv hcl ?_
      refine lv_astore_n (lv' := [(3, .ref q9), (0, .ref (ga X 0)), (1, .int x1), (2, .ref (ga X 34))]) hx hb ddL_writeSlot_12 rfl hl (by decide) rfl (fun ls hl => ?_)
      refine lv_iconst (v := (1 : Int32)) hx hb ddL_writeSlot_13 (by decide) ?_
      exact kw_iret hx hb hr hlocks hK hS h ddL_writeSlot_14 ⟨Nat.le_of_ble_eq_true rfl, Nat.le_of_ble_eq_true rfl⟩
  · refine lv_i2l hx hb ddL_writeSlot_7 rfl ?_
    refine last_34 hx hb hK hS ddL_writeSlot_8 (fun H locs hS => ?_)
    obtain ⟨σ4, eσ4⟩ : ∃ y : Mem, y = (st σ1 34 0 r3) := ⟨_, rfl⟩
    rw [← eσ4] at hS
    replace h := h σ4 eσ4
    refine lv_goto (tgt := 15) hx hb ddL_writeSlot_9 (by decide) ?_
    refine lv_iconst (v := (0 : Int32)) hx hb ddL_writeSlot_15 (by decide) ?_
    exact kw_iret hx hb hr hlocks hK hS h ddL_writeSlot_16 ⟨Nat.le_of_ble_eq_true rfl, Nat.le_of_ble_eq_true rfl⟩

set_option maxHeartbeats 4000000 in
set_option maxRecDepth 100000 in
theorem c_L_writeGuard (l : Launch) (X : GX) (hfl : l.stackTraces = false) {x1 : Int32} {σ : Mem} {K : Int32 → Mem → Prop} (h : wp_L_writeGuard x1 σ K) : MH l X yL_writeGuard cL_writeGuard 4 ((Option.some Jvm.ClassFile.FieldType.int)) [(0, 9, 12, 23)] ({ frames := 8, cells := 1, slots := 6, locals := 133 } : Room) 1 6 [.ref (ga X 0), .int x1, .ref (ga X 34)] σ K := by
  refine entH (by decide) (Nat.le_of_ble_eq_true rfl) ?_
  intro p e s m args below meth c A ls hx hb hr hlocks hml hown ht hK hZ hA hS hl hY htab
  have hown : s.vm.findClass "GuardRosterLaw" = some m.cls := hown
  have hl : lv_has ls 4 [(0, .ref (ga X 0)), (1, .int x1), (2, .ref (ga X 34))] := hl
  unfold wp_L_writeGuard at h
  refine lv_aload_n hx hb ddL_writeGuard_0 rfl (lv_at hl 2 rfl) ?_
  refine lv_iconst (v := (0 : Int32)) hx hb ddL_writeGuard_1 (by decide) ?_
  refine lv_aload_n hx hb ddL_writeGuard_2 rfl (lv_at hl 0 rfl) ?_
  refine lv_iload_n hx hb ddL_writeGuard_3 rfl (lv_at hl 1 rfl) ?_
  refine kh_VI (As := [.int x1]) (rest := [.int (0 : Int32), .ref (ga X 34)]) (c_X4_writeGuard l X hfl h) mf_X4_writeGuard lk914 hx hb hml hown ht hK hZ hS hA hY 0 0 rfl rfl rfl ⟨rfl, rfl⟩ ⟨Nat.le_of_ble_eq_true rfl, Nat.le_of_ble_eq_true rfl⟩ rfl hl.1 rfl (Nat.le_of_ble_eq_true rfl) ⟨Nat.le_of_ble_eq_true rfl, Nat.le_of_ble_eq_true rfl⟩ ddL_writeGuard_4 (fun E9 σ9 H locs ce q9 hS h hce hcv hcl => ?_) (fun r3 σ1 H locs hS h => ?_)
  · rcases h with ⟨rfl, h⟩
    · refine vx_catch (name := "java/lang/IndexOutOfBoundsException") (E := "java/lang/IndexOutOfBoundsException") hown (tableOf []) ⟨0, 9, 12, 23⟩ (tableOf []) (htab.trans rfl) (fun _ h9 => absurd h9 List.not_mem_nil) (by decide) (by decide) (ht _ lk517) (castable_use (hY.1 _ (by decide +kernel))) hce hcv hcl ?_
      refine lv_astore_n (lv' := [(3, .ref q9), (0, .ref (ga X 0)), (1, .int x1), (2, .ref (ga X 34))]) hx hb ddL_writeGuard_12 rfl hl (by decide) rfl (fun ls hl => ?_)
      refine lv_iconst (v := (1 : Int32)) hx hb ddL_writeGuard_13 (by decide) ?_
      exact kw_iret hx hb hr hlocks hK hS h ddL_writeGuard_14 ⟨Nat.le_of_ble_eq_true rfl, Nat.le_of_ble_eq_true rfl⟩
  · refine lv_i2l hx hb ddL_writeGuard_7 rfl ?_
    refine last_34 hx hb hK hS ddL_writeGuard_8 (fun H locs hS => ?_)
    obtain ⟨σ4, eσ4⟩ : ∃ y : Mem, y = (st σ1 34 0 r3) := ⟨_, rfl⟩
    rw [← eσ4] at hS
    replace h := h σ4 eσ4
    refine lv_goto (tgt := 15) hx hb ddL_writeGuard_9 (by decide) ?_
    refine lv_iconst (v := (0 : Int32)) hx hb ddL_writeGuard_15 (by decide) ?_
    exact kw_iret hx hb hr hlocks hK hS h ddL_writeGuard_16 ⟨Nat.le_of_ble_eq_true rfl, Nat.le_of_ble_eq_true rfl⟩

set_option maxHeartbeats 4000000 in
set_option maxRecDepth 100000 in
theorem c_L_outputCharacter (l : Launch) (X : GX) (hfl : l.stackTraces = false) {x1 : Int32} {σ : Mem} {K : Int32 → Mem → Prop} (h : wp_L_outputCharacter x1 σ K) : MH l X yL_outputCharacter cL_outputCharacter 4 ((Option.some Jvm.ClassFile.FieldType.int)) [(0, 9, 12, 23)] ({ frames := 7, cells := 1, slots := 6, locals := 111 } : Room) 1 6 [.ref (ga X 0), .int x1, .ref (ga X 34)] σ K := by
  refine entH (by decide) (Nat.le_of_ble_eq_true rfl) ?_
  intro p e s m args below meth c A ls hx hb hr hlocks hml hown ht hK hZ hA hS hl hY htab
  have hown : s.vm.findClass "GuardRosterLaw" = some m.cls := hown
  have hl : lv_has ls 4 [(0, .ref (ga X 0)), (1, .int x1), (2, .ref (ga X 34))] := hl
  unfold wp_L_outputCharacter at h
  refine lv_aload_n hx hb ddL_outputCharacter_0 rfl (lv_at hl 2 rfl) ?_
  refine lv_iconst (v := (0 : Int32)) hx hb ddL_outputCharacter_1 (by decide) ?_
  refine lv_aload_n hx hb ddL_outputCharacter_2 rfl (lv_at hl 0 rfl) ?_
  refine lv_iload_n hx hb ddL_outputCharacter_3 rfl (lv_at hl 1 rfl) ?_
  refine kh_VI (As := [.int x1]) (rest := [.int (0 : Int32), .ref (ga X 34)]) (c_X4_outputCharacter l X hfl h) mf_X4_outputCharacter lk921 hx hb hml hown ht hK hZ hS hA hY 0 0 rfl rfl rfl ⟨rfl, rfl⟩ ⟨Nat.le_of_ble_eq_true rfl, Nat.le_of_ble_eq_true rfl⟩ rfl hl.1 rfl (Nat.le_of_ble_eq_true rfl) ⟨Nat.le_of_ble_eq_true rfl, Nat.le_of_ble_eq_true rfl⟩ ddL_outputCharacter_4 (fun E9 σ9 H locs ce q9 hS h hce hcv hcl => ?_) (fun r3 σ1 H locs hS h => ?_)
  · rcases h with ⟨rfl, h⟩
    · refine vx_catch (name := "java/lang/IndexOutOfBoundsException") (E := "java/lang/IndexOutOfBoundsException") hown (tableOf []) ⟨0, 9, 12, 23⟩ (tableOf []) (htab.trans rfl) (fun _ h9 => absurd h9 List.not_mem_nil) (by decide) (by decide) (ht _ lk517) (castable_use (hY.1 _ (by decide +kernel))) hce hcv hcl ?_
      refine lv_astore_n (lv' := [(3, .ref q9), (0, .ref (ga X 0)), (1, .int x1), (2, .ref (ga X 34))]) hx hb ddL_outputCharacter_12 rfl hl (by decide) rfl (fun ls hl => ?_)
      refine lv_iconst (v := (1 : Int32)) hx hb ddL_outputCharacter_13 (by decide) ?_
      exact kw_iret hx hb hr hlocks hK hS h ddL_outputCharacter_14 ⟨Nat.le_of_ble_eq_true rfl, Nat.le_of_ble_eq_true rfl⟩
  · refine lv_i2l hx hb ddL_outputCharacter_7 rfl ?_
    refine last_34 hx hb hK hS ddL_outputCharacter_8 (fun H locs hS => ?_)
    obtain ⟨σ4, eσ4⟩ : ∃ y : Mem, y = (st σ1 34 0 r3) := ⟨_, rfl⟩
    rw [← eσ4] at hS
    replace h := h σ4 eσ4
    refine lv_goto (tgt := 15) hx hb ddL_outputCharacter_9 (by decide) ?_
    refine lv_iconst (v := (0 : Int32)) hx hb ddL_outputCharacter_15 (by decide) ?_
    exact kw_iret hx hb hr hlocks hK hS h ddL_outputCharacter_16 ⟨Nat.le_of_ble_eq_true rfl, Nat.le_of_ble_eq_true rfl⟩

set_option maxHeartbeats 4000000 in
set_option maxRecDepth 100000 in
theorem c_L_feed (l : Launch) (X : GX) (hfl : l.stackTraces = false) {x1 : Int32} {σ : Mem} {K : Int32 → Mem → Prop} (h : wp_L_feed x1 σ K) : MH l X yL_feed cL_feed 4 ((Option.some Jvm.ClassFile.FieldType.int)) [(0, 9, 12, 15)] ({ frames := 7, cells := 1, slots := 6, locals := 111 } : Room) 1 6 [.ref (ga X 0), .int x1, .ref (ga X 34)] σ K := by
  refine entH (by decide) (Nat.le_of_ble_eq_true rfl) ?_
  intro p e s m args below meth c A ls hx hb hr hlocks hml hown ht hK hZ hA hS hl hY htab
  have hown : s.vm.findClass "GuardRosterLaw" = some m.cls := hown
  have hl : lv_has ls 4 [(0, .ref (ga X 0)), (1, .int x1), (2, .ref (ga X 34))] := hl
  unfold wp_L_feed at h
  refine lv_aload_n hx hb ddL_feed_0 rfl (lv_at hl 2 rfl) ?_
  refine lv_iconst (v := (0 : Int32)) hx hb ddL_feed_1 (by decide) ?_
  refine lv_aload_n hx hb ddL_feed_2 rfl (lv_at hl 0 rfl) ?_
  refine lv_iload_n hx hb ddL_feed_3 rfl (lv_at hl 1 rfl) ?_
  refine kh_VI (As := [.int x1]) (rest := [.int (0 : Int32), .ref (ga X 34)]) (c_X4_feed l X hfl h) mf_X4_feed lk929 hx hb hml hown ht hK hZ hS hA hY 0 0 rfl rfl rfl ⟨rfl, rfl⟩ ⟨Nat.le_of_ble_eq_true rfl, Nat.le_of_ble_eq_true rfl⟩ rfl hl.1 rfl (Nat.le_of_ble_eq_true rfl) ⟨Nat.le_of_ble_eq_true rfl, Nat.le_of_ble_eq_true rfl⟩ ddL_feed_4 (fun E9 σ9 H locs ce q9 hS h hce hcv hcl => ?_) (fun r3 σ1 H locs hS h => ?_)
  · rcases h with ⟨rfl, h⟩
    · refine vx_catch (name := "java/lang/IllegalStateException") (E := "java/lang/IllegalStateException") hown (tableOf []) ⟨0, 9, 12, 15⟩ (tableOf []) (htab.trans rfl) (fun _ h9 => absurd h9 List.not_mem_nil) (by decide) (by decide) (ht _ lk399) (castable_use (hY.1 _ (by decide +kernel))) hce hcv hcl ?_
      refine lv_astore_n (lv' := [(3, .ref q9), (0, .ref (ga X 0)), (1, .int x1), (2, .ref (ga X 34))]) hx hb ddL_feed_12 rfl hl (by decide) rfl (fun ls hl => ?_)
      refine lv_iconst (v := (1 : Int32)) hx hb ddL_feed_13 (by decide) ?_
      exact kw_iret hx hb hr hlocks hK hS h ddL_feed_14 ⟨Nat.le_of_ble_eq_true rfl, Nat.le_of_ble_eq_true rfl⟩
  · refine lv_i2l hx hb ddL_feed_7 rfl ?_
    refine last_34 hx hb hK hS ddL_feed_8 (fun H locs hS => ?_)
    obtain ⟨σ4, eσ4⟩ : ∃ y : Mem, y = (st σ1 34 0 r3) := ⟨_, rfl⟩
    rw [← eσ4] at hS
    replace h := h σ4 eσ4
    refine lv_goto (tgt := 15) hx hb ddL_feed_9 (by decide) ?_
    refine lv_iconst (v := (0 : Int32)) hx hb ddL_feed_15 (by decide) ?_
    exact kw_iret hx hb hr hlocks hK hS h ddL_feed_16 ⟨Nat.le_of_ble_eq_true rfl, Nat.le_of_ble_eq_true rfl⟩

set_option maxHeartbeats 4000000 in
set_option maxRecDepth 100000 in
theorem c_L_execute (l : Launch) (X : GX) (hfl : l.stackTraces = false) {σ : Mem} {K : Int32 → Mem → Prop} (h : wp_L_execute σ K) : MH l X yL_execute cL_execute 3 ((Option.some Jvm.ClassFile.FieldType.int)) [(0, 8, 11, 13), (0, 8, 14, 35)] ({ frames := 8, cells := 1, slots := 6, locals := 188 } : Room) 1 6 [.ref (ga X 0), .ref (ga X 34)] σ K := by
  refine entH (by decide) (Nat.le_of_ble_eq_true rfl) ?_
  intro p e s m args below meth c A ls hx hb hr hlocks hml hown ht hK hZ hA hS hl hY htab
  have hown : s.vm.findClass "GuardRosterLaw" = some m.cls := hown
  have hl : lv_has ls 3 [(0, .ref (ga X 0)), (1, .ref (ga X 34))] := hl
  unfold wp_L_execute at h
  refine lv_aload_n hx hb ddL_execute_0 rfl (lv_at hl 1 rfl) ?_
  refine lv_iconst (v := (0 : Int32)) hx hb ddL_execute_1 (by decide) ?_
  refine lv_aload_n hx hb ddL_execute_2 rfl (lv_at hl 0 rfl) ?_
  refine kh_VI (As := []) (rest := [.int (0 : Int32), .ref (ga X 34)]) (c_X4_execute l X hfl h) mf_X4_execute lk945 hx hb hml hown ht hK hZ hS hA hY 0 0 rfl rfl rfl ⟨rfl, rfl⟩ ⟨Nat.le_of_ble_eq_true rfl, Nat.le_of_ble_eq_true rfl⟩ rfl hl.1 rfl (Nat.le_of_ble_eq_true rfl) ⟨Nat.le_of_ble_eq_true rfl, Nat.le_of_ble_eq_true rfl⟩ ddL_execute_3 (fun E9 σ9 H locs ce q9 hS h hce hcv hcl => ?_) (fun r3 σ1 H locs hS h => ?_)
  · rcases h with ⟨rfl, h⟩ | ⟨rfl, h⟩
    · refine vx_catch (name := "java/lang/IllegalArgumentException") (E := "java/lang/IllegalArgumentException") hown (tableOf []) ⟨0, 8, 11, 13⟩ (tableOf [(0, 8, 14, 35)]) (htab.trans rfl) (fun _ h9 => absurd h9 List.not_mem_nil) (by decide) (by decide) (ht _ lk398) (castable_use (hY.1 _ (by decide +kernel))) hce hcv hcl ?_
      refine lv_astore_n (lv' := [(2, .ref q9), (0, .ref (ga X 0)), (1, .ref (ga X 34))]) hx hb ddL_execute_11 rfl hl (by decide) rfl (fun ls hl => ?_)
      refine lv_iconst (v := (1 : Int32)) hx hb ddL_execute_12 (by decide) ?_
      exact kw_iret hx hb hr hlocks hK hS h ddL_execute_13 ⟨Nat.le_of_ble_eq_true rfl, Nat.le_of_ble_eq_true rfl⟩
    · refine vx_catch (name := "java/lang/UnsupportedOperationException") (E := "java/lang/UnsupportedOperationException") hown (tableOf [(0, 8, 11, 13)]) ⟨0, 8, 14, 35⟩ (tableOf []) (htab.trans rfl) (List.forall_mem_cons.mpr ⟨Or.inr ⟨by decide, "java/lang/IllegalArgumentException", ht _ lk398, hZ.2.2.2.2.2.2 ("java/lang/UnsupportedOperationException", "java/lang/IllegalArgumentException") (by decide +kernel)⟩, fun _ h9 => absurd h9 List.not_mem_nil⟩) (by decide) (by decide) (ht _ lk573) (castable_use (hY.1 _ (by decide +kernel))) hce hcv hcl ?_
      refine lv_astore_n (lv' := [(2, .ref q9), (0, .ref (ga X 0)), (1, .ref (ga X 34))]) hx hb ddL_execute_14 rfl hl (by decide) rfl (fun ls hl => ?_)
      refine lv_iconst (v := (2 : Int32)) hx hb ddL_execute_15 (by decide) ?_
      exact kw_iret hx hb hr hlocks hK hS h ddL_execute_16 ⟨Nat.le_of_ble_eq_true rfl, Nat.le_of_ble_eq_true rfl⟩
  · refine lv_i2l hx hb ddL_execute_6 rfl ?_
    refine last_34 hx hb hK hS ddL_execute_7 (fun H locs hS => ?_)
    obtain ⟨σ4, eσ4⟩ : ∃ y : Mem, y = (st σ1 34 0 r3) := ⟨_, rfl⟩
    rw [← eσ4] at hS
    replace h := h σ4 eσ4
    refine lv_goto (tgt := 17) hx hb ddL_execute_8 (by decide) ?_
    refine lv_iconst (v := (0 : Int32)) hx hb ddL_execute_17 (by decide) ?_
    exact kw_iret hx hb hr hlocks hK hS h ddL_execute_18 ⟨Nat.le_of_ble_eq_true rfl, Nat.le_of_ble_eq_true rfl⟩

set_option maxHeartbeats 4000000 in
set_option maxRecDepth 100000 in
theorem c_L_errorPosition (l : Launch) (X : GX) (hfl : l.stackTraces = false) {σ : Mem} {K : Int32 → Mem → Prop} (h : wp_L_errorPosition σ K) : MH l X yL_errorPosition cL_errorPosition 3 ((Option.some Jvm.ClassFile.FieldType.int)) [(0, 8, 11, 45)] ({ frames := 7, cells := 1, slots := 6, locals := 110 } : Room) 1 6 [.ref (ga X 0), .ref (ga X 34)] σ K := by
  refine entH (by decide) (Nat.le_of_ble_eq_true rfl) ?_
  intro p e s m args below meth c A ls hx hb hr hlocks hml hown ht hK hZ hA hS hl hY htab
  have hown : s.vm.findClass "GuardRosterLaw" = some m.cls := hown
  have hl : lv_has ls 3 [(0, .ref (ga X 0)), (1, .ref (ga X 34))] := hl
  unfold wp_L_errorPosition at h
  refine lv_aload_n hx hb ddL_errorPosition_0 rfl (lv_at hl 1 rfl) ?_
  refine lv_iconst (v := (0 : Int32)) hx hb ddL_errorPosition_1 (by decide) ?_
  refine lv_aload_n hx hb ddL_errorPosition_2 rfl (lv_at hl 0 rfl) ?_
  refine kh_VI (As := []) (rest := [.int (0 : Int32), .ref (ga X 34)]) (c_X4_errorPosition l X hfl h) mf_X4_errorPosition lk1079 hx hb hml hown ht hK hZ hS hA hY 0 0 rfl rfl rfl ⟨rfl, rfl⟩ ⟨Nat.le_of_ble_eq_true rfl, Nat.le_of_ble_eq_true rfl⟩ rfl hl.1 rfl (Nat.le_of_ble_eq_true rfl) ⟨Nat.le_of_ble_eq_true rfl, Nat.le_of_ble_eq_true rfl⟩ ddL_errorPosition_3 (fun E9 σ9 H locs ce q9 hS h hce hcv hcl => ?_) (fun r3 σ1 H locs hS h => ?_)
  · rcases h with ⟨rfl, h⟩
    · refine vx_catch (name := "java/util/NoSuchElementException") (E := "java/util/NoSuchElementException") hown (tableOf []) ⟨0, 8, 11, 45⟩ (tableOf []) (htab.trans rfl) (fun _ h9 => absurd h9 List.not_mem_nil) (by decide) (by decide) (ht _ lk617) (castable_use (hY.1 _ (by decide +kernel))) hce hcv hcl ?_
      refine lv_astore_n (lv' := [(2, .ref q9), (0, .ref (ga X 0)), (1, .ref (ga X 34))]) hx hb ddL_errorPosition_11 rfl hl (by decide) rfl (fun ls hl => ?_)
      refine lv_iconst (v := (1 : Int32)) hx hb ddL_errorPosition_12 (by decide) ?_
      exact kw_iret hx hb hr hlocks hK hS h ddL_errorPosition_13 ⟨Nat.le_of_ble_eq_true rfl, Nat.le_of_ble_eq_true rfl⟩
  · refine lv_i2l hx hb ddL_errorPosition_6 rfl ?_
    refine last_34 hx hb hK hS ddL_errorPosition_7 (fun H locs hS => ?_)
    obtain ⟨σ4, eσ4⟩ : ∃ y : Mem, y = (st σ1 34 0 r3) := ⟨_, rfl⟩
    rw [← eσ4] at hS
    replace h := h σ4 eσ4
    refine lv_goto (tgt := 14) hx hb ddL_errorPosition_8 (by decide) ?_
    refine lv_iconst (v := (0 : Int32)) hx hb ddL_errorPosition_14 (by decide) ?_
    exact kw_iret hx hb hr hlocks hK hS h ddL_errorPosition_15 ⟨Nat.le_of_ble_eq_true rfl, Nat.le_of_ble_eq_true rfl⟩

set_option maxHeartbeats 4000000 in
set_option maxRecDepth 100000 in
theorem c_L_failedCommand (l : Launch) (X : GX) (hfl : l.stackTraces = false) {σ : Mem} {K : Int32 → Mem → Prop} (h : wp_L_failedCommand σ K) : MH l X yL_failedCommand cL_failedCommand 3 ((Option.some Jvm.ClassFile.FieldType.int)) [(0, 8, 11, 45)] ({ frames := 7, cells := 1, slots := 6, locals := 110 } : Room) 1 6 [.ref (ga X 0), .ref (ga X 34)] σ K := by
  refine entH (by decide) (Nat.le_of_ble_eq_true rfl) ?_
  intro p e s m args below meth c A ls hx hb hr hlocks hml hown ht hK hZ hA hS hl hY htab
  have hown : s.vm.findClass "GuardRosterLaw" = some m.cls := hown
  have hl : lv_has ls 3 [(0, .ref (ga X 0)), (1, .ref (ga X 34))] := hl
  unfold wp_L_failedCommand at h
  refine lv_aload_n hx hb ddL_failedCommand_0 rfl (lv_at hl 1 rfl) ?_
  refine lv_iconst (v := (0 : Int32)) hx hb ddL_failedCommand_1 (by decide) ?_
  refine lv_aload_n hx hb ddL_failedCommand_2 rfl (lv_at hl 0 rfl) ?_
  refine kh_VI (As := []) (rest := [.int (0 : Int32), .ref (ga X 34)]) (c_X4_failedCommand l X hfl h) mf_X4_failedCommand lk1087 hx hb hml hown ht hK hZ hS hA hY 0 0 rfl rfl rfl ⟨rfl, rfl⟩ ⟨Nat.le_of_ble_eq_true rfl, Nat.le_of_ble_eq_true rfl⟩ rfl hl.1 rfl (Nat.le_of_ble_eq_true rfl) ⟨Nat.le_of_ble_eq_true rfl, Nat.le_of_ble_eq_true rfl⟩ ddL_failedCommand_3 (fun E9 σ9 H locs ce q9 hS h hce hcv hcl => ?_) (fun r3 σ1 H locs hS h => ?_)
  · rcases h with ⟨rfl, h⟩
    · refine vx_catch (name := "java/util/NoSuchElementException") (E := "java/util/NoSuchElementException") hown (tableOf []) ⟨0, 8, 11, 45⟩ (tableOf []) (htab.trans rfl) (fun _ h9 => absurd h9 List.not_mem_nil) (by decide) (by decide) (ht _ lk617) (castable_use (hY.1 _ (by decide +kernel))) hce hcv hcl ?_
      refine lv_astore_n (lv' := [(2, .ref q9), (0, .ref (ga X 0)), (1, .ref (ga X 34))]) hx hb ddL_failedCommand_11 rfl hl (by decide) rfl (fun ls hl => ?_)
      refine lv_iconst (v := (1 : Int32)) hx hb ddL_failedCommand_12 (by decide) ?_
      exact kw_iret hx hb hr hlocks hK hS h ddL_failedCommand_13 ⟨Nat.le_of_ble_eq_true rfl, Nat.le_of_ble_eq_true rfl⟩
  · refine lv_i2l hx hb ddL_failedCommand_6 rfl ?_
    refine last_34 hx hb hK hS ddL_failedCommand_7 (fun H locs hS => ?_)
    obtain ⟨σ4, eσ4⟩ : ∃ y : Mem, y = (st σ1 34 0 r3) := ⟨_, rfl⟩
    rw [← eσ4] at hS
    replace h := h σ4 eσ4
    refine lv_goto (tgt := 14) hx hb ddL_failedCommand_8 (by decide) ?_
    refine lv_iconst (v := (0 : Int32)) hx hb ddL_failedCommand_14 (by decide) ?_
    exact kw_iret hx hb hr hlocks hK hS h ddL_failedCommand_15 ⟨Nat.le_of_ble_eq_true rfl, Nat.le_of_ble_eq_true rfl⟩

set_option maxHeartbeats 4000000 in
set_option maxRecDepth 100000 in
theorem c_L_undo (l : Launch) (X : GX) (hfl : l.stackTraces = false) {σ : Mem} {K : Int32 → Mem → Prop} (h : wp_L_undo σ K) : MH l X yL_undo cL_undo 3 ((Option.some Jvm.ClassFile.FieldType.int)) [(0, 8, 11, 15)] ({ frames := 7, cells := 1, slots := 6, locals := 163 } : Room) 1 6 [.ref (ga X 0), .ref (ga X 34)] σ K := by
  refine entH (by decide) (Nat.le_of_ble_eq_true rfl) ?_
  intro p e s m args below meth c A ls hx hb hr hlocks hml hown ht hK hZ hA hS hl hY htab
  have hown : s.vm.findClass "GuardRosterLaw" = some m.cls := hown
  have hl : lv_has ls 3 [(0, .ref (ga X 0)), (1, .ref (ga X 34))] := hl
  unfold wp_L_undo at h
  refine lv_aload_n hx hb ddL_undo_0 rfl (lv_at hl 1 rfl) ?_
  refine lv_iconst (v := (0 : Int32)) hx hb ddL_undo_1 (by decide) ?_
  refine lv_aload_n hx hb ddL_undo_2 rfl (lv_at hl 0 rfl) ?_
  refine kh_VI (As := []) (rest := [.int (0 : Int32), .ref (ga X 34)]) (c_X4_undo l X hfl h) mf_X4_undo lk1095 hx hb hml hown ht hK hZ hS hA hY 0 0 rfl rfl rfl ⟨rfl, rfl⟩ ⟨Nat.le_of_ble_eq_true rfl, Nat.le_of_ble_eq_true rfl⟩ rfl hl.1 rfl (Nat.le_of_ble_eq_true rfl) ⟨Nat.le_of_ble_eq_true rfl, Nat.le_of_ble_eq_true rfl⟩ ddL_undo_3 (fun E9 σ9 H locs ce q9 hS h hce hcv hcl => ?_) (fun r3 σ1 H locs hS h => ?_)
  · rcases h with ⟨rfl, h⟩
    · refine vx_catch (name := "java/lang/IllegalStateException") (E := "java/lang/IllegalStateException") hown (tableOf []) ⟨0, 8, 11, 15⟩ (tableOf []) (htab.trans rfl) (fun _ h9 => absurd h9 List.not_mem_nil) (by decide) (by decide) (ht _ lk399) (castable_use (hY.1 _ (by decide +kernel))) hce hcv hcl ?_
      refine lv_astore_n (lv' := [(2, .ref q9), (0, .ref (ga X 0)), (1, .ref (ga X 34))]) hx hb ddL_undo_11 rfl hl (by decide) rfl (fun ls hl => ?_)
      refine lv_iconst (v := (1 : Int32)) hx hb ddL_undo_12 (by decide) ?_
      exact kw_iret hx hb hr hlocks hK hS h ddL_undo_13 ⟨Nat.le_of_ble_eq_true rfl, Nat.le_of_ble_eq_true rfl⟩
  · refine lv_i2l hx hb ddL_undo_6 rfl ?_
    refine last_34 hx hb hK hS ddL_undo_7 (fun H locs hS => ?_)
    obtain ⟨σ4, eσ4⟩ : ∃ y : Mem, y = (st σ1 34 0 r3) := ⟨_, rfl⟩
    rw [← eσ4] at hS
    replace h := h σ4 eσ4
    refine lv_goto (tgt := 14) hx hb ddL_undo_8 (by decide) ?_
    refine lv_iconst (v := (0 : Int32)) hx hb ddL_undo_14 (by decide) ?_
    exact kw_iret hx hb hr hlocks hK hS h ddL_undo_15 ⟨Nat.le_of_ble_eq_true rfl, Nat.le_of_ble_eq_true rfl⟩

set_option maxHeartbeats 4000000 in
set_option maxRecDepth 100000 in
theorem c_L_restore (l : Launch) (X : GX) (hfl : l.stackTraces = false) {σ : Mem} {K : Int32 → Mem → Prop} (h : wp_L_restore σ K) : MH l X yL_restore cL_restore 3 ((Option.some Jvm.ClassFile.FieldType.int)) [(0, 8, 11, 15)] ({ frames := 7, cells := 1, slots := 6, locals := 121 } : Room) 1 6 [.ref (ga X 0), .ref (ga X 34)] σ K := by
  refine entH (by decide) (Nat.le_of_ble_eq_true rfl) ?_
  intro p e s m args below meth c A ls hx hb hr hlocks hml hown ht hK hZ hA hS hl hY htab
  have hown : s.vm.findClass "GuardRosterLaw" = some m.cls := hown
  have hl : lv_has ls 3 [(0, .ref (ga X 0)), (1, .ref (ga X 34))] := hl
  unfold wp_L_restore at h
  refine lv_aload_n hx hb ddL_restore_0 rfl (lv_at hl 1 rfl) ?_
  refine lv_iconst (v := (0 : Int32)) hx hb ddL_restore_1 (by decide) ?_
  refine lv_aload_n hx hb ddL_restore_2 rfl (lv_at hl 0 rfl) ?_
  refine kh_VI (As := []) (rest := [.int (0 : Int32), .ref (ga X 34)]) (c_X4_restore l X hfl h) mf_X4_restore lk1108 hx hb hml hown ht hK hZ hS hA hY 0 0 rfl rfl rfl ⟨rfl, rfl⟩ ⟨Nat.le_of_ble_eq_true rfl, Nat.le_of_ble_eq_true rfl⟩ rfl hl.1 rfl (Nat.le_of_ble_eq_true rfl) ⟨Nat.le_of_ble_eq_true rfl, Nat.le_of_ble_eq_true rfl⟩ ddL_restore_3 (fun E9 σ9 H locs ce q9 hS h hce hcv hcl => ?_) (fun r3 σ1 H locs hS h => ?_)
  · rcases h with ⟨rfl, h⟩
    · refine vx_catch (name := "java/lang/IllegalStateException") (E := "java/lang/IllegalStateException") hown (tableOf []) ⟨0, 8, 11, 15⟩ (tableOf []) (htab.trans rfl) (fun _ h9 => absurd h9 List.not_mem_nil) (by decide) (by decide) (ht _ lk399) (castable_use (hY.1 _ (by decide +kernel))) hce hcv hcl ?_
      refine lv_astore_n (lv' := [(2, .ref q9), (0, .ref (ga X 0)), (1, .ref (ga X 34))]) hx hb ddL_restore_11 rfl hl (by decide) rfl (fun ls hl => ?_)
      refine lv_iconst (v := (1 : Int32)) hx hb ddL_restore_12 (by decide) ?_
      exact kw_iret hx hb hr hlocks hK hS h ddL_restore_13 ⟨Nat.le_of_ble_eq_true rfl, Nat.le_of_ble_eq_true rfl⟩
  · refine lv_i2l hx hb ddL_restore_6 rfl ?_
    refine last_34 hx hb hK hS ddL_restore_7 (fun H locs hS => ?_)
    obtain ⟨σ4, eσ4⟩ : ∃ y : Mem, y = (st σ1 34 0 r3) := ⟨_, rfl⟩
    rw [← eσ4] at hS
    replace h := h σ4 eσ4
    refine lv_goto (tgt := 14) hx hb ddL_restore_8 (by decide) ?_
    refine lv_iconst (v := (0 : Int32)) hx hb ddL_restore_14 (by decide) ?_
    exact kw_iret hx hb hr hlocks hK hS h ddL_restore_15 ⟨Nat.le_of_ble_eq_true rfl, Nat.le_of_ble_eq_true rfl⟩
