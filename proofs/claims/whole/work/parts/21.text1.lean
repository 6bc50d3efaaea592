set_option maxHeartbeats 4000000 in
set_option maxRecDepth 100000 in
theorem c_X0_shapeOf (l : Launch) (X : GX) {x0 : Int32} {σ : Mem} {K : Nat → Mem → Prop} (h : wp_X0_shapeOf x0 σ K) : MR l X yX0_shapeOf cX0_shapeOf 1 ((Option.some (Jvm.ClassFile.FieldType.object "java/lang/String"))) ({ frames := 0, cells := 0, slots := 0, locals := 0 } : Room) [.int x0] σ K := by
  refine ent_met (QQ := fun A => QR X K A) (by decide) (Nat.le_of_ble_eq_true rfl) ?_
  intro p e s m args below meth c A ls hx hb hr hlocks hml hown ht hK hZ hA hS hl
  have hown : s.vm.findClass "GuardRoster$CommandText" = some m.cls := hown
  have hl : lv_has ls 1 [(0, .int x0)] := hl
  unfold wp_X0_shapeOf at h
  refine lv_iload_n hx hb ddX0_shapeOf_0 rfl (lv_at hl 0 rfl) ?_
  by_cases c1 : x0 = (0 : Int32)
  · refine lv_tableIn (off := 43) (tgt := 44) hx hb ddX0_shapeOf_1 (by rw [c1]; decide) (by rw [c1]; decide) (by rw [c1]; rfl) (by decide) ?_
    replace h := h.1 c1
    refine va_ldcS hx hb hown (hZ.2.1 0 _ rfl) ddX0_shapeOf_44 ?_
    exact k_sret hx hb hr hlocks hK hS h ddX0_shapeOf_46
  replace h := h.2
  by_cases c2 : x0 = (1 : Int32)
  · refine lv_tableIn (off := 46) (tgt := 47) hx hb ddX0_shapeOf_1 (by rw [c2]; decide) (by rw [c2]; decide) (by rw [c2]; rfl) (by decide) ?_
    replace h := h.1 c2
    refine va_ldcS hx hb hown (hZ.2.1 1 _ rfl) ddX0_shapeOf_47 ?_
    exact k_sret hx hb hr hlocks hK hS h ddX0_shapeOf_49
  replace h := h.2
  by_cases c3 : x0 = (2 : Int32)
  · refine lv_tableIn (off := 49) (tgt := 50) hx hb ddX0_shapeOf_1 (by rw [c3]; decide) (by rw [c3]; decide) (by rw [c3]; rfl) (by decide) ?_
    replace h := h.1 c3
    refine va_ldcS hx hb hown (hZ.2.1 2 _ rfl) ddX0_shapeOf_50 ?_
    exact k_sret hx hb hr hlocks hK hS h ddX0_shapeOf_52
  replace h := h.2
  by_cases c4 : x0 = (3 : Int32)
  · refine lv_tableIn (off := 52) (tgt := 53) hx hb ddX0_shapeOf_1 (by rw [c4]; decide) (by rw [c4]; decide) (by rw [c4]; rfl) (by decide) ?_
    replace h := h.1 c4
    refine va_ldcS hx hb hown (hZ.2.1 3 _ rfl) ddX0_shapeOf_53 ?_
    exact k_sret hx hb hr hlocks hK hS h ddX0_shapeOf_55
  replace h := h.2
  by_cases c5 : x0 = (4 : Int32)
  · refine lv_tableIn (off := 55) (tgt := 56) hx hb ddX0_shapeOf_1 (by rw [c5]; decide) (by rw [c5]; decide) (by rw [c5]; rfl) (by decide) ?_
    replace h := h.1 c5
    refine va_ldcS hx hb hown (hZ.2.1 4 _ rfl) ddX0_shapeOf_56 ?_
    exact k_sret hx hb hr hlocks hK hS h ddX0_shapeOf_58
  replace h := h.2
  by_cases c6 : x0 = (5 : Int32)
  · refine lv_tableIn (off := 58) (tgt := 59) hx hb ddX0_shapeOf_1 (by rw [c6]; decide) (by rw [c6]; decide) (by rw [c6]; rfl) (by decide) ?_
    replace h := h.1 c6
    refine va_ldcS hx hb hown (hZ.2.1 5 _ rfl) ddX0_shapeOf_59 ?_
    exact k_sret hx hb hr hlocks hK hS h ddX0_shapeOf_61
  replace h := h.2
  by_cases c7 : x0 = (6 : Int32)
  · refine lv_tableIn (off := 61) (tgt := 62) hx hb ddX0_shapeOf_1 (by rw [c7]; decide) (by rw [c7]; decide) (by rw [c7]; rfl) (by decide) ?_
    replace h := h.1 c7
    refine va_ldcS hx hb hown (hZ.2.1 6 _ rfl) ddX0_shapeOf_62 ?_
    exact k_sret hx hb hr hlocks hK hS h ddX0_shapeOf_64
  replace h := h.2
  refine lv_tableOut (tgt := 65) hx hb ddX0_shapeOf_1 (by have := ne_toInt c1 (a := 0) rfl; have := ne_toInt c2 (a := 1) rfl; have := ne_toInt c3 (a := 2) rfl; have := ne_toInt c4 (a := 3) rfl; have := ne_toInt c5 (a := 4) rfl; have := ne_toInt c6 (a := 5) rfl; have := ne_toInt c7 (a := 6) rfl; omega) (by decide) ?_
  replace h := h c1 c2 c3 c4 c5 c6 c7
  refine va_ldcS hx hb hown (hZ.2.1 7 _ rfl) ddX0_shapeOf_65 ?_
  exact k_sret hx hb hr hlocks hK hS h ddX0_shapeOf_67

set_option maxHeartbeats 4000000 in
set_option maxRecDepth 100000 in
theorem c_X0_readShape_0 (l : Launch) (X : GX) {x2 : Int32} {σ : Mem} {K : Int32 → Mem → Prop} (h : wp_X0_readShape_0 x2 σ K) : MI l X yX0_readShape cX0_readShape 11 ((Option.some Jvm.ClassFile.FieldType.int)) ({ frames := 4, cells := 0, slots := 0, locals := 85 } : Room) [.ref (ga X 19), .ref (gK X 0), .int x2] σ K := by
  refine ent_met (QQ := fun A => va_Qi K (BW X A) A) (by decide) (Nat.le_of_ble_eq_true rfl) ?_
  intro p e s m args below meth c A ls hx hb hr hlocks hml hown ht hK hZ hA hS hl
  have hown : s.vm.findClass "GuardRoster$CommandText" = some m.cls := hown
  have hl : lv_has ls 11 [(0, .ref (ga X 19)), (1, .ref (gK X 0)), (2, .int x2)] := hl
  have hJ76 : ∀ (x3 : Int32) (σ : Mem) (H : Heap) (locs : List Loc) (ls : Array Slot), WS X A s.heap σ H locs → lv_has ls 11 [(0, .ref (ga X 19)), (3, .int x3)] → wpJ_X0_readShape_0_76 K x3 σ → WI X K p l e ({ frames := 4, cells := 0, slots := 0, locals := 85 } : Room) s m args below meth c A H locs (F0 m 76 ls []) := by
    intro x3 σ H locs ls hS hl h
    unfold wpJ_X0_readShape_0_76 at h
    refine lv_aload_n hx hb ddX0_readShape_76 rfl (lv_at hl 0 rfl) ?_
    refine lv_iload_n hx hb ddX0_readShape_77 rfl (lv_at hl 1 rfl) ?_
    refine put_19_5 hx hb hown ht hK hS lk94 ddX0_readShape_78 (fun H locs hS => ?_)
    obtain ⟨σ22, eσ22⟩ : ∃ y : Mem, y = (st σ 19 5 x3) := ⟨_, rfl⟩
    rw [← eσ22] at hS
    replace h := h σ22 eσ22
    refine lv_iconst (v := (-1 : Int32)) hx hb ddX0_readShape_81 (by decide) ?_
    exact k_iret hx hb hr hlocks hK hS h ddX0_readShape_82
  have hJ66 : ∀ (x3 : Int32) (σ : Mem) (H : Heap) (locs : List Loc) (ls : Array Slot), WS X A s.heap σ H locs → lv_has ls 11 [(0, .ref (ga X 19)), (3, .int x3)] → wpJ_X0_readShape_0_66 K x3 σ → WI X K p l e ({ frames := 4, cells := 0, slots := 0, locals := 85 } : Room) s m args below meth c A H locs (F0 m 66 ls []) := by
    intro x3 σ H locs ls hS hl h
    unfold wpJ_X0_readShape_0_66 at h
    refine lv_goto (tgt := 76) hx hb ddX0_readShape_66 (by decide) ?_
    exact hJ76 _ _ _ _ _ hS (lv_sub hl [0, 1] rfl) h
  have hL8 : ∀ (n : Nat) (x3 x4 x5 : Int32) (σ : Mem) (H : Heap) (locs : List Loc) (ls : Array Slot), WS X A s.heap σ H locs → lv_has ls 11 [(0, .ref (ga X 19)), (1, .ref (gK X 0)), (3, .int x3), (4, .int x4), (5, .int x5)] → wlp (wpF_X0_readShape_0_8 K) n (x3, x4, x5, σ) → WI X K p l e ({ frames := 4, cells := 0, slots := 0, locals := 85 } : Room) s m args below meth c A H locs (F0 m 8 ls []) := by
    intro n8
    induction n8 with
    | zero => intro x3 x4 x5 σ H locs ls hS hl h; exact h.elim
    | succ n8 ih8 =>
      have hJ147 : ∀ (x3 x4 x5 : Int32) (σ : Mem) (H : Heap) (locs : List Loc) (ls : Array Slot), WS X A s.heap σ H locs → lv_has ls 11 [(0, .ref (ga X 19)), (1, .ref (gK X 0)), (3, .int x3), (4, .int x4), (5, .int x5)] → wpJ_X0_readShape_0_147 K (wlp (wpF_X0_readShape_0_8 K) n8) x3 x4 x5 σ → WI X K p l e ({ frames := 4, cells := 0, slots := 0, locals := 85 } : Room) s m args below meth c A H locs (F0 m 147 ls []) := by
        intro x3 x4 x5 σ H locs ls hS hl h
        unfold wpJ_X0_readShape_0_147 at h
        obtain ⟨v10, ev10⟩ : ∃ y : Int32, y = x5 + (1 : Int32) := ⟨_, rfl⟩
        replace h := h v10 ev10
        refine lv_iinc (v := v10) (lv' := [(5, .int v10), (0, .ref (ga X 19)), (1, .ref (gK X 0)), (3, .int x3), (4, .int x4)]) hx hb ddX0_readShape_147 hl (k := 4) rfl (by rw [ev10]; rfl) (by decide) rfl (fun ls hl => ?_)
        refine lv_goto (tgt := 8) hx hb ddX0_readShape_150 (by decide) ?_
        exact ih8 _ _ _ _ _ _ _ hS (lv_sub hl [1, 2, 3, 4, 0] rfl) h
      have hJ136 : ∀ (x3 x4 x5 x9 : Int32) (σ : Mem) (H : Heap) (locs : List Loc) (ls : Array Slot), WS X A s.heap σ H locs → lv_has ls 11 [(0, .ref (ga X 19)), (1, .ref (gK X 0)), (3, .int x3), (4, .int x4), (5, .int x5), (9, .int x9)] → wpJ_X0_readShape_0_136 K (wlp (wpF_X0_readShape_0_8 K) n8) x3 x4 x5 x9 σ → WI X K p l e ({ frames := 4, cells := 0, slots := 0, locals := 85 } : Room) s m args below meth c A H locs (F0 m 136 ls []) := by
        intro x3 x4 x5 x9 σ H locs ls hS hl h
        unfold wpJ_X0_readShape_0_136 at h
        refine lv_aload_n hx hb ddX0_readShape_136 rfl (lv_at hl 0 rfl) ?_
        refine lv_iload hx hb ddX0_readShape_137 (lv_at hl 3 rfl) ?_
        refine lv_iload hx hb ddX0_readShape_139 (lv_at hl 5 rfl) ?_
        refine k_VV (As := [.int x4, .int x9]) (rest := []) (c_X0_keepValue l X h) mf_X0_keepValue lk1027 hx hb hml hown ht hK hZ hS hA 19 4 rfl rfl rfl ⟨rfl, rfl⟩ ⟨Nat.le_of_ble_eq_true rfl, Nat.le_of_ble_eq_true rfl⟩ rfl hl.1 rfl (Nat.le_of_ble_eq_true rfl) ⟨Nat.le_of_ble_eq_true rfl, Nat.le_of_ble_eq_true rfl⟩ ddX0_readShape_141 (fun σ15 H locs hS h => ?_)
        obtain ⟨v16, ev16⟩ : ∃ y : Int32, y = x4 + (1 : Int32) := ⟨_, rfl⟩
        replace h := h v16 ev16
        refine lv_iinc (v := v16) (lv' := [(4, .int v16), (0, .ref (ga X 19)), (1, .ref (gK X 0)), (3, .int x3), (5, .int x5), (9, .int x9)]) hx hb ddX0_readShape_144 hl (k := 3) rfl (by rw [ev16]; rfl) (by decide) rfl (fun ls hl => ?_)
        exact hJ147 _ _ _ _ _ _ _ hS (lv_sub hl [1, 2, 3, 0, 4] rfl) h
      have hJ83 : ∀ (x3 x4 x5 x6 x7 x8 : Int32) (σ : Mem) (H : Heap) (locs : List Loc) (ls : Array Slot), WS X A s.heap σ H locs → lv_has ls 11 [(0, .ref (ga X 19)), (1, .ref (gK X 0)), (3, .int x3), (4, .int x4), (5, .int x5), (6, .int x6), (7, .int x7), (8, .int x8)] → wpJ_X0_readShape_0_83 K (wlp (wpF_X0_readShape_0_8 K) n8) x3 x4 x5 x6 x7 x8 σ → WI X K p l e ({ frames := 4, cells := 0, slots := 0, locals := 85 } : Room) s m args below meth c A H locs (F0 m 83 ls []) := by
        intro x3 x4 x5 x6 x7 x8 σ H locs ls hS hl h
        unfold wpJ_X0_readShape_0_83 at h
        obtain ⟨v8, ev8⟩ : ∃ y : Int32, y = x3 + (1 : Int32) := ⟨_, rfl⟩
        replace h := h v8 ev8
        refine lv_iinc (v := v8) (lv' := [(3, .int v8), (0, .ref (ga X 19)), (1, .ref (gK X 0)), (4, .int x4), (5, .int x5), (6, .int x6), (7, .int x7), (8, .int x8)]) hx hb ddX0_readShape_83 hl (k := 2) rfl (by rw [ev8]; rfl) (by decide) rfl (fun ls hl => ?_)
        refine lv_iload hx hb ddX0_readShape_86 (lv_at hl 7 rfl) ?_
        refine lv_if_eq (tgt := 147) hx hb ddX0_readShape_88 (by decide) (fun c9 => ?_) (fun c9 => ?_)
        · replace h := h.1 c9
          exact hJ147 _ _ _ _ _ _ _ hS (lv_sub hl [1, 2, 0, 3, 4] rfl) h
        · replace h := h.2 c9
          refine lv_iload hx hb ddX0_readShape_91 (lv_at hl 6 rfl) ?_
          refine lv_bipush (v := (48 : Int32)) hx hb ddX0_readShape_93 (by decide) ?_
          refine lv_isub hx hb ddX0_readShape_95 ?_
          refine lv_topi (fun v11 ev11 => ?_)
          replace h := h v11 ev11
          refine lv_istore (lv' := [(9, .int v11), (3, .int v8), (0, .ref (ga X 19)), (1, .ref (gK X 0)), (4, .int x4), (5, .int x5), (6, .int x6), (7, .int x7), (8, .int x8)]) hx hb ddX0_readShape_96 hl (by decide) rfl (fun ls hl => ?_)
          refine lv_aload_n hx hb ddX0_readShape_98 rfl (lv_at hl 2 rfl) ?_
          refine lv_iload_n hx hb ddX0_readShape_99 rfl (lv_at hl 1 rfl) ?_
          refine k_VI (As := [.int v8]) (rest := []) (c_X0_characterAt l X h) mf_X0_characterAt lk1020 hx hb hml hown ht hK hZ hS hA 19 4 rfl rfl rfl ⟨rfl, rfl⟩ ⟨Nat.le_of_ble_eq_true rfl, Nat.le_of_ble_eq_true rfl⟩ rfl hl.1 rfl (Nat.le_of_ble_eq_true rfl) ⟨Nat.le_of_ble_eq_true rfl, Nat.le_of_ble_eq_true rfl⟩ ddX0_readShape_100 (fun r13 σ12 H locs hS h => ?_)
          refine lv_istore (lv' := [(10, .int r13), (9, .int v11), (3, .int v8), (0, .ref (ga X 19)), (1, .ref (gK X 0)), (4, .int x4), (5, .int x5), (6, .int x6), (7, .int x7), (8, .int x8)]) hx hb ddX0_readShape_103 hl (by decide) rfl (fun ls hl => ?_)
          refine lv_iload hx hb ddX0_readShape_105 (lv_at hl 7 rfl) ?_
          refine lv_bipush (v := (37 : Int32)) hx hb ddX0_readShape_107 (by decide) ?_
          refine lv_icmp_ne (tgt := 136) hx hb ddX0_readShape_109 (by decide) (fun c14 => ?_) (fun c14 => ?_)
          · replace h := h.1 c14
            exact hJ136 _ _ _ _ _ _ _ _ hS (lv_sub hl [3, 4, 2, 5, 6, 1] rfl) h
          · replace h := h.2 c14
            refine lv_iload hx hb ddX0_readShape_112 (lv_at hl 0 rfl) ?_
            refine k_SI (As := [.int r13]) (rest := []) (c_X0_isDigit l X h) mf_X0_isDigit lk1024 hx hb hml hown ht hK hZ hS hA ⟨rfl, rfl⟩ ⟨Nat.le_of_ble_eq_true rfl, Nat.le_of_ble_eq_true rfl⟩ rfl hl.1 rfl (Nat.le_of_ble_eq_true rfl) ⟨Nat.le_of_ble_eq_true rfl, Nat.le_of_ble_eq_true rfl⟩ ddX0_readShape_114 (fun r18 σ17 H locs hS h => ?_)
            refine lv_if_eq (tgt := 136) hx hb ddX0_readShape_117 (by decide) (fun c19 => ?_) (fun c19 => ?_)
            · replace h := h.1 c19
              exact hJ136 _ _ _ _ _ _ _ _ hS (lv_sub hl [3, 4, 2, 5, 6, 1] rfl) h
            · replace h := h.2 c19
              refine lv_iload hx hb ddX0_readShape_120 (lv_at hl 1 rfl) ?_
              refine lv_bipush (v := (10 : Int32)) hx hb ddX0_readShape_122 (by decide) ?_
              refine lv_imul hx hb ddX0_readShape_124 ?_
              refine lv_iload hx hb ddX0_readShape_125 (lv_at hl 0 rfl) ?_
              refine lv_iadd hx hb ddX0_readShape_127 ?_
              refine lv_bipush (v := (48 : Int32)) hx hb ddX0_readShape_128 (by decide) ?_
              refine lv_isub hx hb ddX0_readShape_130 ?_
              refine lv_topi (fun v20 ev20 => ?_)
              replace h := h v20 ev20
              refine lv_istore (lv' := [(9, .int v20), (10, .int r13), (3, .int v8), (0, .ref (ga X 19)), (1, .ref (gK X 0)), (4, .int x4), (5, .int x5), (6, .int x6), (7, .int x7), (8, .int x8)]) hx hb ddX0_readShape_131 hl (by decide) rfl (fun ls hl => ?_)
              obtain ⟨v21, ev21⟩ : ∃ y : Int32, y = v8 + (1 : Int32) := ⟨_, rfl⟩
              replace h := h v21 ev21
              refine lv_iinc (v := v21) (lv' := [(3, .int v21), (9, .int v20), (10, .int r13), (0, .ref (ga X 19)), (1, .ref (gK X 0)), (4, .int x4), (5, .int x5), (6, .int x6), (7, .int x7), (8, .int x8)]) hx hb ddX0_readShape_133 hl (k := 2) rfl (by rw [ev21]; rfl) (by decide) rfl (fun ls hl => ?_)
              exact hJ136 _ _ _ _ _ _ _ _ hS (lv_sub hl [3, 4, 0, 5, 6, 1] rfl) h
      have hJ51 : ∀ (x3 x4 x5 x6 x7 y0 : Int32) (σ : Mem) (H : Heap) (locs : List Loc) (ls : Array Slot), WS X A s.heap σ H locs → lv_has ls 11 [(0, .ref (ga X 19)), (1, .ref (gK X 0)), (3, .int x3), (4, .int x4), (5, .int x5), (6, .int x6), (7, .int x7)] → wpJ_X0_readShape_0_51 K (wlp (wpF_X0_readShape_0_8 K) n8) x3 x4 x5 x6 x7 y0 σ → WI X K p l e ({ frames := 4, cells := 0, slots := 0, locals := 85 } : Room) s m args below meth c A H locs (F0 m 51 ls [.int y0]) := by
        intro x3 x4 x5 x6 x7 y0 σ H locs ls hS hl h
        unfold wpJ_X0_readShape_0_51 at h
        refine lv_istore (lv' := [(8, .int y0), (0, .ref (ga X 19)), (1, .ref (gK X 0)), (3, .int x3), (4, .int x4), (5, .int x5), (6, .int x6), (7, .int x7)]) hx hb ddX0_readShape_51 hl (by decide) rfl (fun ls hl => ?_)
        refine lv_iload hx hb ddX0_readShape_53 (lv_at hl 0 rfl) ?_
        refine lv_if_eq (tgt := 69) hx hb ddX0_readShape_55 (by decide) (fun c6 => ?_) (fun c6 => ?_)
        · replace h := h.1 c6
          refine lv_iload hx hb ddX0_readShape_69 (lv_at hl 7 rfl) ?_
          refine lv_iload hx hb ddX0_readShape_71 (lv_at hl 6 rfl) ?_
          refine lv_icmp_eq (tgt := 83) hx hb ddX0_readShape_73 (by decide) (fun c7 => ?_) (fun c7 => ?_)
          · replace h := h.1 c7
            exact hJ83 _ _ _ _ _ _ _ _ _ _ hS (lv_sub hl [1, 2, 3, 4, 5, 6, 7, 0] rfl) h
          · replace h := h.2 c7
            exact hJ76 _ _ _ _ _ hS (lv_sub hl [1, 3] rfl) h
        · replace h := h.2 c6
          refine lv_iload hx hb ddX0_readShape_58 (lv_at hl 7 rfl) ?_
          refine k_SI (As := [.int x7]) (rest := []) (c_X0_isDigit l X h) mf_X0_isDigit lk1024 hx hb hml hown ht hK hZ hS hA ⟨rfl, rfl⟩ ⟨Nat.le_of_ble_eq_true rfl, Nat.le_of_ble_eq_true rfl⟩ rfl hl.1 rfl (Nat.le_of_ble_eq_true rfl) ⟨Nat.le_of_ble_eq_true rfl, Nat.le_of_ble_eq_true rfl⟩ ddX0_readShape_60 (fun r24 σ23 H locs hS h => ?_)
          refine lv_if_ne (tgt := 83) hx hb ddX0_readShape_63 (by decide) (fun c25 => ?_) (fun c25 => ?_)
          · replace h := h.1 c25
            exact hJ83 _ _ _ _ _ _ _ _ _ _ hS (lv_sub hl [1, 2, 3, 4, 5, 6, 7, 0] rfl) h
          · replace h := h.2 c25
            exact hJ66 _ _ _ _ _ hS (lv_sub hl [1, 3] rfl) h
      have hJ46 : ∀ (x3 x4 x5 x6 x7 : Int32) (σ : Mem) (H : Heap) (locs : List Loc) (ls : Array Slot), WS X A s.heap σ H locs → lv_has ls 11 [(0, .ref (ga X 19)), (1, .ref (gK X 0)), (3, .int x3), (4, .int x4), (5, .int x5), (6, .int x6), (7, .int x7)] → wpJ_X0_readShape_0_46 K (wlp (wpF_X0_readShape_0_8 K) n8) x3 x4 x5 x6 x7 σ → WI X K p l e ({ frames := 4, cells := 0, slots := 0, locals := 85 } : Room) s m args below meth c A H locs (F0 m 46 ls []) := by
        intro x3 x4 x5 x6 x7 σ H locs ls hS hl h
        unfold wpJ_X0_readShape_0_46 at h
        refine lv_iconst (v := (1 : Int32)) hx hb ddX0_readShape_46 (by decide) ?_
        refine lv_goto (tgt := 51) hx hb ddX0_readShape_47 (by decide) ?_
        exact hJ51 _ _ _ _ _ _ _ _ _ _ hS (lv_sub hl [0, 1, 2, 3, 4, 5, 6] rfl) h
      intro x3 x4 x5 σ H locs ls hS hl h
      replace h : wpS_X0_readShape_0_8 K (wlp (wpF_X0_readShape_0_8 K) n8) x3 x4 x5 σ := h
      unfold wpS_X0_readShape_0_8 at h
      refine lv_iload hx hb ddX0_readShape_8 (lv_at hl 4 rfl) ?_
      refine lv_aload_n hx hb ddX0_readShape_10 rfl (lv_at hl 1 rfl) ?_
      refine k_RI (As := []) (rest := [.int x5]) (cS_length l X (i := 0) (by decide) (K := fun r s => r = (6 : Int32) ∧ s = σ) ⟨by decide, rfl⟩) mf_J0_length_8abf5 lk972 hx hb hml hown ht hK hZ hS hA (vk_recv hZ.1 (by decide) hS.2.2) ⟨rfl, rfl⟩ ⟨Nat.le_of_ble_eq_true rfl, Nat.le_of_ble_eq_true rfl⟩ rfl hl.1 rfl (Nat.le_of_ble_eq_true rfl) ⟨Nat.le_of_ble_eq_true rfl, Nat.le_of_ble_eq_true rfl⟩ ddX0_readShape_11 (fun r9 s9 H locs hS h9 => ?_)
      rw [h9.2] at hS
      rw [h9.1]
      refine lv_icmp_ge (tgt := 153) hx hb ddX0_readShape_14 (by decide) (fun c1 => ?_) (fun c1 => ?_)
      · replace h := h.1 c1
        refine lv_iload_n hx hb ddX0_readShape_153 rfl (lv_at hl 2 rfl) ?_
        exact k_iret hx hb hr hlocks hK hS h ddX0_readShape_154
      · replace h := h.2 c1
        refine lv_aload_n hx hb ddX0_readShape_17 rfl (lv_at hl 1 rfl) ?_
        refine lv_iload hx hb ddX0_readShape_18 (lv_at hl 4 rfl) ?_
        refine k_RI (As := [.int x5]) (rest := []) (cS_charAt l X (i := 0) (by decide) (K := fun r s => r = sch 0 x5 ∧ s = σ) ⟨h.1, rfl, rfl⟩) mf_J0_charAt_5068e lk982 hx hb hml hown ht hK hZ hS hA (vk_recv hZ.1 (by decide) hS.2.2) ⟨rfl, rfl⟩ ⟨Nat.le_of_ble_eq_true rfl, Nat.le_of_ble_eq_true rfl⟩ rfl hl.1 rfl (Nat.le_of_ble_eq_true rfl) ⟨Nat.le_of_ble_eq_true rfl, Nat.le_of_ble_eq_true rfl⟩ ddX0_readShape_20 (fun r9 s9 H locs hS h9 => ?_)
        replace h := h.2
        rw [h9.2] at hS
        rw [h9.1]
        refine lv_topi (fun v2 ev2 => ?_)
        replace h := h v2 ev2
        refine lv_istore (lv' := [(6, .int v2), (0, .ref (ga X 19)), (1, .ref (gK X 0)), (3, .int x3), (4, .int x4), (5, .int x5)]) hx hb ddX0_readShape_23 hl (by decide) rfl (fun ls hl => ?_)
        refine lv_aload_n hx hb ddX0_readShape_25 rfl (lv_at hl 1 rfl) ?_
        refine lv_iload_n hx hb ddX0_readShape_26 rfl (lv_at hl 3 rfl) ?_
        refine k_VI (As := [.int x3]) (rest := []) (c_X0_characterAt l X h) mf_X0_characterAt lk1020 hx hb hml hown ht hK hZ hS hA 19 4 rfl rfl rfl ⟨rfl, rfl⟩ ⟨Nat.le_of_ble_eq_true rfl, Nat.le_of_ble_eq_true rfl⟩ rfl hl.1 rfl (Nat.le_of_ble_eq_true rfl) ⟨Nat.le_of_ble_eq_true rfl, Nat.le_of_ble_eq_true rfl⟩ ddX0_readShape_27 (fun r4 σ3 H locs hS h => ?_)
        refine lv_istore (lv' := [(7, .int r4), (6, .int v2), (0, .ref (ga X 19)), (1, .ref (gK X 0)), (3, .int x3), (4, .int x4), (5, .int x5)]) hx hb ddX0_readShape_30 hl (by decide) rfl (fun ls hl => ?_)
        refine lv_iload hx hb ddX0_readShape_32 (lv_at hl 1 rfl) ?_
        refine lv_bipush (v := (35 : Int32)) hx hb ddX0_readShape_34 (by decide) ?_
        refine lv_icmp_eq (tgt := 46) hx hb ddX0_readShape_36 (by decide) (fun c5 => ?_) (fun c5 => ?_)
        · replace h := h.1 c5
          exact hJ46 _ _ _ _ _ _ _ _ _ hS (lv_sub hl [2, 3, 4, 5, 6, 1, 0] rfl) h
        · replace h := h.2 c5
          refine lv_iload hx hb ddX0_readShape_39 (lv_at hl 1 rfl) ?_
          refine lv_bipush (v := (37 : Int32)) hx hb ddX0_readShape_41 (by decide) ?_
          refine lv_icmp_ne (tgt := 50) hx hb ddX0_readShape_43 (by decide) (fun c26 => ?_) (fun c26 => ?_)
          · replace h := h.1 c26
            refine lv_iconst (v := (0 : Int32)) hx hb ddX0_readShape_50 (by decide) ?_
            exact hJ51 _ _ _ _ _ _ _ _ _ _ hS (lv_sub hl [2, 3, 4, 5, 6, 1, 0] rfl) h
          · replace h := h.2 c26
            exact hJ46 _ _ _ _ _ _ _ _ _ hS (lv_sub hl [2, 3, 4, 5, 6, 1, 0] rfl) h
  unfold wp_X0_readShape_0 at h
  refine lv_iload_n hx hb ddX0_readShape_0 rfl (lv_at hl 2 rfl) ?_
  refine lv_istore_n (lv' := [(3, .int x2), (0, .ref (ga X 19)), (1, .ref (gK X 0)), (2, .int x2)]) hx hb ddX0_readShape_1 rfl hl (by decide) rfl (fun ls hl => ?_)
  refine lv_iconst (v := (0 : Int32)) hx hb ddX0_readShape_2 (by decide) ?_
  refine lv_istore (lv' := [(4, .int (0 : Int32)), (3, .int x2), (0, .ref (ga X 19)), (1, .ref (gK X 0)), (2, .int x2)]) hx hb ddX0_readShape_3 hl (by decide) rfl (fun ls hl => ?_)
  refine lv_iconst (v := (0 : Int32)) hx hb ddX0_readShape_5 (by decide) ?_
  refine lv_istore (lv' := [(5, .int (0 : Int32)), (4, .int (0 : Int32)), (3, .int x2), (0, .ref (ga X 19)), (1, .ref (gK X 0)), (2, .int x2)]) hx hb ddX0_readShape_6 hl (by decide) rfl (fun ls hl => ?_)
  obtain ⟨n, h⟩ := h
  exact hL8 n _ _ _ _ _ _ _ hS (lv_sub hl [3, 4, 2, 1, 0] rfl) h

set_option maxHeartbeats 4000000 in
set_option maxRecDepth 100000 in
theorem c_X0_readShape_1 (l : Launch) (X : GX) {x2 : Int32} {σ : Mem} {K : Int32 → Mem → Prop} (h : wp_X0_readShape_1 x2 σ K) : MI l X yX0_readShape cX0_readShape 11 ((Option.some Jvm.ClassFile.FieldType.int)) ({ frames := 4, cells := 0, slots := 0, locals := 85 } : Room) [.ref (ga X 19), .ref (gK X 1), .int x2] σ K := by
  refine ent_met (QQ := fun A => va_Qi K (BW X A) A) (by decide) (Nat.le_of_ble_eq_true rfl) ?_
  intro p e s m args below meth c A ls hx hb hr hlocks hml hown ht hK hZ hA hS hl
  have hown : s.vm.findClass "GuardRoster$CommandText" = some m.cls := hown
  have hl : lv_has ls 11 [(0, .ref (ga X 19)), (1, .ref (gK X 1)), (2, .int x2)] := hl
  have hJ76 : ∀ (x3 : Int32) (σ : Mem) (H : Heap) (locs : List Loc) (ls : Array Slot), WS X A s.heap σ H locs → lv_has ls 11 [(0, .ref (ga X 19)), (3, .int x3)] → wpJ_X0_readShape_1_76 K x3 σ → WI X K p l e ({ frames := 4, cells := 0, slots := 0, locals := 85 } : Room) s m args below meth c A H locs (F0 m 76 ls []) := by
    intro x3 σ H locs ls hS hl h
    unfold wpJ_X0_readShape_1_76 at h
    refine lv_aload_n hx hb ddX0_readShape_76 rfl (lv_at hl 0 rfl) ?_
    refine lv_iload_n hx hb ddX0_readShape_77 rfl (lv_at hl 1 rfl) ?_
    refine put_19_5 hx hb hown ht hK hS lk94 ddX0_readShape_78 (fun H locs hS => ?_)
    obtain ⟨σ22, eσ22⟩ : ∃ y : Mem, y = (st σ 19 5 x3) := ⟨_, rfl⟩
    rw [← eσ22] at hS
    replace h := h σ22 eσ22
    refine lv_iconst (v := (-1 : Int32)) hx hb ddX0_readShape_81 (by decide) ?_
    exact k_iret hx hb hr hlocks hK hS h ddX0_readShape_82
  have hJ66 : ∀ (x3 : Int32) (σ : Mem) (H : Heap) (locs : List Loc) (ls : Array Slot), WS X A s.heap σ H locs → lv_has ls 11 [(0, .ref (ga X 19)), (3, .int x3)] → wpJ_X0_readShape_1_66 K x3 σ → WI X K p l e ({ frames := 4, cells := 0, slots := 0, locals := 85 } : Room) s m args below meth c A H locs (F0 m 66 ls []) := by
    intro x3 σ H locs ls hS hl h
    unfold wpJ_X0_readShape_1_66 at h
    refine lv_goto (tgt := 76) hx hb ddX0_readShape_66 (by decide) ?_
    exact hJ76 _ _ _ _ _ hS (lv_sub hl [0, 1] rfl) h
  have hL8 : ∀ (n : Nat) (x3 x4 x5 : Int32) (σ : Mem) (H : Heap) (locs : List Loc) (ls : Array Slot), WS X A s.heap σ H locs → lv_has ls 11 [(0, .ref (ga X 19)), (1, .ref (gK X 1)), (3, .int x3), (4, .int x4), (5, .int x5)] → wlp (wpF_X0_readShape_1_8 K) n (x3, x4, x5, σ) → WI X K p l e ({ frames := 4, cells := 0, slots := 0, locals := 85 } : Room) s m args below meth c A H locs (F0 m 8 ls []) := by
    intro n8
    induction n8 with
    | zero => intro x3 x4 x5 σ H locs ls hS hl h; exact h.elim
    | succ n8 ih8 =>
      have hJ147 : ∀ (x3 x4 x5 : Int32) (σ : Mem) (H : Heap) (locs : List Loc) (ls : Array Slot), WS X A s.heap σ H locs → lv_has ls 11 [(0, .ref (ga X 19)), (1, .ref (gK X 1)), (3, .int x3), (4, .int x4), (5, .int x5)] → wpJ_X0_readShape_1_147 K (wlp (wpF_X0_readShape_1_8 K) n8) x3 x4 x5 σ → WI X K p l e ({ frames := 4, cells := 0, slots := 0, locals := 85 } : Room) s m args below meth c A H locs (F0 m 147 ls []) := by
        intro x3 x4 x5 σ H locs ls hS hl h
        unfold wpJ_X0_readShape_1_147 at h
        obtain ⟨v10, ev10⟩ : ∃ y : Int32, y = x5 + (1 : Int32) := ⟨_, rfl⟩
        replace h := h v10 ev10
        refine lv_iinc (v := v10) (lv' := [(5, .int v10), (0, .ref (ga X 19)), (1, .ref (gK X 1)), (3, .int x3), (4, .int x4)]) hx hb ddX0_readShape_147 hl (k := 4) rfl (by rw [ev10]; rfl) (by decide) rfl (fun ls hl => ?_)
        refine lv_goto (tgt := 8) hx hb ddX0_readShape_150 (by decide) ?_
        exact ih8 _ _ _ _ _ _ _ hS (lv_sub hl [1, 2, 3, 4, 0] rfl) h
      have hJ136 : ∀ (x3 x4 x5 x9 : Int32) (σ : Mem) (H : Heap) (locs : List Loc) (ls : Array Slot), WS X A s.heap σ H locs → lv_has ls 11 [(0, .ref (ga X 19)), (1, .ref (gK X 1)), (3, .int x3), (4, .int x4), (5, .int x5), (9, .int x9)] → wpJ_X0_readShape_1_136 K (wlp (wpF_X0_readShape_1_8 K) n8) x3 x4 x5 x9 σ → WI X K p l e ({ frames := 4, cells := 0, slots := 0, locals := 85 } : Room) s m args below meth c A H locs (F0 m 136 ls []) := by
        intro x3 x4 x5 x9 σ H locs ls hS hl h
        unfold wpJ_X0_readShape_1_136 at h
        refine lv_aload_n hx hb ddX0_readShape_136 rfl (lv_at hl 0 rfl) ?_
        refine lv_iload hx hb ddX0_readShape_137 (lv_at hl 3 rfl) ?_
        refine lv_iload hx hb ddX0_readShape_139 (lv_at hl 5 rfl) ?_
        refine k_VV (As := [.int x4, .int x9]) (rest := []) (c_X0_keepValue l X h) mf_X0_keepValue lk1027 hx hb hml hown ht hK hZ hS hA 19 4 rfl rfl rfl ⟨rfl, rfl⟩ ⟨Nat.le_of_ble_eq_true rfl, Nat.le_of_ble_eq_true rfl⟩ rfl hl.1 rfl (Nat.le_of_ble_eq_true rfl) ⟨Nat.le_of_ble_eq_true rfl, Nat.le_of_ble_eq_true rfl⟩ ddX0_readShape_141 (fun σ15 H locs hS h => ?_)
        obtain ⟨v16, ev16⟩ : ∃ y : Int32, y = x4 + (1 : Int32) := ⟨_, rfl⟩
        replace h := h v16 ev16
        refine lv_iinc (v := v16) (lv' := [(4, .int v16), (0, .ref (ga X 19)), (1, .ref (gK X 1)), (3, .int x3), (5, .int x5), (9, .int x9)]) hx hb ddX0_readShape_144 hl (k := 3) rfl (by rw [ev16]; rfl) (by decide) rfl (fun ls hl => ?_)
        exact hJ147 _ _ _ _ _ _ _ hS (lv_sub hl [1, 2, 3, 0, 4] rfl) h
      have hJ83 : ∀ (x3 x4 x5 x6 x7 x8 : Int32) (σ : Mem) (H : Heap) (locs : List Loc) (ls : Array Slot), WS X A s.heap σ H locs → lv_has ls 11 [(0, .ref (ga X 19)), (1, .ref (gK X 1)), (3, .int x3), (4, .int x4), (5, .int x5), (6, .int x6), (7, .int x7), (8, .int x8)] → wpJ_X0_readShape_1_83 K (wlp (wpF_X0_readShape_1_8 K) n8) x3 x4 x5 x6 x7 x8 σ → WI X K p l e ({ frames := 4, cells := 0, slots := 0, locals := 85 } : Room) s m args below meth c A H locs (F0 m 83 ls []) := by
        intro x3 x4 x5 x6 x7 x8 σ H locs ls hS hl h
        unfold wpJ_X0_readShape_1_83 at h
        obtain ⟨v8, ev8⟩ : ∃ y : Int32, y = x3 + (1 : Int32) := ⟨_, rfl⟩
        replace h := h v8 ev8
        refine lv_iinc (v := v8) (lv' := [(3, .int v8), (0, .ref (ga X 19)), (1, .ref (gK X 1)), (4, .int x4), (5, .int x5), (6, .int x6), (7, .int x7), (8, .int x8)]) hx hb ddX0_readShape_83 hl (k := 2) rfl (by rw [ev8]; rfl) (by decide) rfl (fun ls hl => ?_)
        refine lv_iload hx hb ddX0_readShape_86 (lv_at hl 7 rfl) ?_
        refine lv_if_eq (tgt := 147) hx hb ddX0_readShape_88 (by decide) (fun c9 => ?_) (fun c9 => ?_)
        · replace h := h.1 c9
          exact hJ147 _ _ _ _ _ _ _ hS (lv_sub hl [1, 2, 0, 3, 4] rfl) h
        · replace h := h.2 c9
          refine lv_iload hx hb ddX0_readShape_91 (lv_at hl 6 rfl) ?_
          refine lv_bipush (v := (48 : Int32)) hx hb ddX0_readShape_93 (by decide) ?_
          refine lv_isub hx hb ddX0_readShape_95 ?_
          refine lv_topi (fun v11 ev11 => ?_)
          replace h := h v11 ev11
          refine lv_istore (lv' := [(9, .int v11), (3, .int v8), (0, .ref (ga X 19)), (1, .ref (gK X 1)), (4, .int x4), (5, .int x5), (6, .int x6), (7, .int x7), (8, .int x8)]) hx hb ddX0_readShape_96 hl (by decide) rfl (fun ls hl => ?_)
          refine lv_aload_n hx hb ddX0_readShape_98 rfl (lv_at hl 2 rfl) ?_
          refine lv_iload_n hx hb ddX0_readShape_99 rfl (lv_at hl 1 rfl) ?_
          refine k_VI (As := [.int v8]) (rest := []) (c_X0_characterAt l X h) mf_X0_characterAt lk1020 hx hb hml hown ht hK hZ hS hA 19 4 rfl rfl rfl ⟨rfl, rfl⟩ ⟨Nat.le_of_ble_eq_true rfl, Nat.le_of_ble_eq_true rfl⟩ rfl hl.1 rfl (Nat.le_of_ble_eq_true rfl) ⟨Nat.le_of_ble_eq_true rfl, Nat.le_of_ble_eq_true rfl⟩ ddX0_readShape_100 (fun r13 σ12 H locs hS h => ?_)
          refine lv_istore (lv' := [(10, .int r13), (9, .int v11), (3, .int v8), (0, .ref (ga X 19)), (1, .ref (gK X 1)), (4, .int x4), (5, .int x5), (6, .int x6), (7, .int x7), (8, .int x8)]) hx hb ddX0_readShape_103 hl (by decide) rfl (fun ls hl => ?_)
          refine lv_iload hx hb ddX0_readShape_105 (lv_at hl 7 rfl) ?_
          refine lv_bipush (v := (37 : Int32)) hx hb ddX0_readShape_107 (by decide) ?_
          refine lv_icmp_ne (tgt := 136) hx hb ddX0_readShape_109 (by decide) (fun c14 => ?_) (fun c14 => ?_)
          · replace h := h.1 c14
            exact hJ136 _ _ _ _ _ _ _ _ hS (lv_sub hl [3, 4, 2, 5, 6, 1] rfl) h
          · replace h := h.2 c14
            refine lv_iload hx hb ddX0_readShape_112 (lv_at hl 0 rfl) ?_
            refine k_SI (As := [.int r13]) (rest := []) (c_X0_isDigit l X h) mf_X0_isDigit lk1024 hx hb hml hown ht hK hZ hS hA ⟨rfl, rfl⟩ ⟨Nat.le_of_ble_eq_true rfl, Nat.le_of_ble_eq_true rfl⟩ rfl hl.1 rfl (Nat.le_of_ble_eq_true rfl) ⟨Nat.le_of_ble_eq_true rfl, Nat.le_of_ble_eq_true rfl⟩ ddX0_readShape_114 (fun r18 σ17 H locs hS h => ?_)
            refine lv_if_eq (tgt := 136) hx hb ddX0_readShape_117 (by decide) (fun c19 => ?_) (fun c19 => ?_)
            · replace h := h.1 c19
              exact hJ136 _ _ _ _ _ _ _ _ hS (lv_sub hl [3, 4, 2, 5, 6, 1] rfl) h
            · replace h := h.2 c19
              refine lv_iload hx hb ddX0_readShape_120 (lv_at hl 1 rfl) ?_
              refine lv_bipush (v := (10 : Int32)) hx hb ddX0_readShape_122 (by decide) ?_
              refine lv_imul hx hb ddX0_readShape_124 ?_
              refine lv_iload hx hb ddX0_readShape_125 (lv_at hl 0 rfl) ?_
              refine lv_iadd hx hb ddX0_readShape_127 ?_
              refine lv_bipush (v := (48 : Int32)) hx hb ddX0_readShape_128 (by decide) ?_
              refine lv_isub hx hb ddX0_readShape_130 ?_
              refine lv_topi (fun v20 ev20 => ?_)
              replace h := h v20 ev20
              refine lv_istore (lv' := [(9, .int v20), (10, .int r13), (3, .int v8), (0, .ref (ga X 19)), (1, .ref (gK X 1)), (4, .int x4), (5, .int x5), (6, .int x6), (7, .int x7), (8, .int x8)]) hx hb ddX0_readShape_131 hl (by decide) rfl (fun ls hl => ?_)
              obtain ⟨v21, ev21⟩ : ∃ y : Int32, y = v8 + (1 : Int32) := ⟨_, rfl⟩
              replace h := h v21 ev21
              refine lv_iinc (v := v21) (lv' := [(3, .int v21), (9, .int v20), (10, .int r13), (0, .ref (ga X 19)), (1, .ref (gK X 1)), (4, .int x4), (5, .int x5), (6, .int x6), (7, .int x7), (8, .int x8)]) hx hb ddX0_readShape_133 hl (k := 2) rfl (by rw [ev21]; rfl) (by decide) rfl (fun ls hl => ?_)
              exact hJ136 _ _ _ _ _ _ _ _ hS (lv_sub hl [3, 4, 0, 5, 6, 1] rfl) h
      have hJ51 : ∀ (x3 x4 x5 x6 x7 y0 : Int32) (σ : Mem) (H : Heap) (locs : List Loc) (ls : Array Slot), WS X A s.heap σ H locs → lv_has ls 11 [(0, .ref (ga X 19)), (1, .ref (gK X 1)), (3, .int x3), (4, .int x4), (5, .int x5), (6, .int x6), (7, .int x7)] → wpJ_X0_readShape_1_51 K (wlp (wpF_X0_readShape_1_8 K) n8) x3 x4 x5 x6 x7 y0 σ → WI X K p l e ({ frames := 4, cells := 0, slots := 0, locals := 85 } : Room) s m args below meth c A H locs (F0 m 51 ls [.int y0]) := by
        intro x3 x4 x5 x6 x7 y0 σ H locs ls hS hl h
        unfold wpJ_X0_readShape_1_51 at h
        refine lv_istore (lv' := [(8, .int y0), (0, .ref (ga X 19)), (1, .ref (gK X 1)), (3, .int x3), (4, .int x4), (5, .int x5), (6, .int x6), (7, .int x7)]) hx hb ddX0_readShape_51 hl (by decide) rfl (fun ls hl => ?_)
        refine lv_iload hx hb ddX0_readShape_53 (lv_at hl 0 rfl) ?_
        refine lv_if_eq (tgt := 69) hx hb ddX0_readShape_55 (by decide) (fun c6 => ?_) (fun c6 => ?_)
        · replace h := h.1 c6
          refine lv_iload hx hb ddX0_readShape_69 (lv_at hl 7 rfl) ?_
          refine lv_iload hx hb ddX0_readShape_71 (lv_at hl 6 rfl) ?_
          refine lv_icmp_eq (tgt := 83) hx hb ddX0_readShape_73 (by decide) (fun c7 => ?_) (fun c7 => ?_)
          · replace h := h.1 c7
            exact hJ83 _ _ _ _ _ _ _ _ _ _ hS (lv_sub hl [1, 2, 3, 4, 5, 6, 7, 0] rfl) h
          · replace h := h.2 c7
            exact hJ76 _ _ _ _ _ hS (lv_sub hl [1, 3] rfl) h
        · replace h := h.2 c6
          refine lv_iload hx hb ddX0_readShape_58 (lv_at hl 7 rfl) ?_
          refine k_SI (As := [.int x7]) (rest := []) (c_X0_isDigit l X h) mf_X0_isDigit lk1024 hx hb hml hown ht hK hZ hS hA ⟨rfl, rfl⟩ ⟨Nat.le_of_ble_eq_true rfl, Nat.le_of_ble_eq_true rfl⟩ rfl hl.1 rfl (Nat.le_of_ble_eq_true rfl) ⟨Nat.le_of_ble_eq_true rfl, Nat.le_of_ble_eq_true rfl⟩ ddX0_readShape_60 (fun r24 σ23 H locs hS h => ?_)
          refine lv_if_ne (tgt := 83) hx hb ddX0_readShape_63 (by decide) (fun c25 => ?_) (fun c25 => ?_)
          · replace h := h.1 c25
            exact hJ83 _ _ _ _ _ _ _ _ _ _ hS (lv_sub hl [1, 2, 3, 4, 5, 6, 7, 0] rfl) h
          · replace h := h.2 c25
            exact hJ66 _ _ _ _ _ hS (lv_sub hl [1, 3] rfl) h
      have hJ46 : ∀ (x3 x4 x5 x6 x7 : Int32) (σ : Mem) (H : Heap) (locs : List Loc) (ls : Array Slot), WS X A s.heap σ H locs → lv_has ls 11 [(0, .ref (ga X 19)), (1, .ref (gK X 1)), (3, .int x3), (4, .int x4), (5, .int x5), (6, .int x6), (7, .int x7)] → wpJ_X0_readShape_1_46 K (wlp (wpF_X0_readShape_1_8 K) n8) x3 x4 x5 x6 x7 σ → WI X K p l e ({ frames := 4, cells := 0, slots := 0, locals := 85 } : Room) s m args below meth c A H locs (F0 m 46 ls []) := by
        intro x3 x4 x5 x6 x7 σ H locs ls hS hl h
        unfold wpJ_X0_readShape_1_46 at h
        refine lv_iconst (v := (1 : Int32)) hx hb ddX0_readShape_46 (by decide) ?_
        refine lv_goto (tgt := 51) hx hb ddX0_readShape_47 (by decide) ?_
        exact hJ51 _ _ _ _ _ _ _ _ _ _ hS (lv_sub hl [0, 1, 2, 3, 4, 5, 6] rfl) h
      intro x3 x4 x5 σ H locs ls hS hl h
      replace h : wpS_X0_readShape_1_8 K (wlp (wpF_X0_readShape_1_8 K) n8) x3 x4 x5 σ := h
      unfold wpS_X0_readShape_1_8 at h
      refine lv_iload hx hb ddX0_readShape_8 (lv_at hl 4 rfl) ?_
      refine lv_aload_n hx hb ddX0_readShape_10 rfl (lv_at hl 1 rfl) ?_
      refine k_RI (As := []) (rest := [.int x5]) (cS_length l X (i := 1) (by decide) (K := fun r s => r = (7 : Int32) ∧ s = σ) ⟨by decide, rfl⟩) mf_J0_length_8abf5 lk972 hx hb hml hown ht hK hZ hS hA (vk_recv hZ.1 (by decide) hS.2.2) ⟨rfl, rfl⟩ ⟨Nat.le_of_ble_eq_true rfl, Nat.le_of_ble_eq_true rfl⟩ rfl hl.1 rfl (Nat.le_of_ble_eq_true rfl) ⟨Nat.le_of_ble_eq_true rfl, Nat.le_of_ble_eq_true rfl⟩ ddX0_readShape_11 (fun r9 s9 H locs hS h9 => ?_)
      rw [h9.2] at hS
      rw [h9.1]
      refine lv_icmp_ge (tgt := 153) hx hb ddX0_readShape_14 (by decide) (fun c1 => ?_) (fun c1 => ?_)
      · replace h := h.1 c1
        refine lv_iload_n hx hb ddX0_readShape_153 rfl (lv_at hl 2 rfl) ?_
        exact k_iret hx hb hr hlocks hK hS h ddX0_readShape_154
      · replace h := h.2 c1
        refine lv_aload_n hx hb ddX0_readShape_17 rfl (lv_at hl 1 rfl) ?_
        refine lv_iload hx hb ddX0_readShape_18 (lv_at hl 4 rfl) ?_
        refine k_RI (As := [.int x5]) (rest := []) (cS_charAt l X (i := 1) (by decide) (K := fun r s => r = sch 1 x5 ∧ s = σ) ⟨h.1, rfl, rfl⟩) mf_J0_charAt_5068e lk982 hx hb hml hown ht hK hZ hS hA (vk_recv hZ.1 (by decide) hS.2.2) ⟨rfl, rfl⟩ ⟨Nat.le_of_ble_eq_true rfl, Nat.le_of_ble_eq_true rfl⟩ rfl hl.1 rfl (Nat.le_of_ble_eq_true rfl) ⟨Nat.le_of_ble_eq_true rfl, Nat.le_of_ble_eq_true rfl⟩ ddX0_readShape_20 (fun r9 s9 H locs hS h9 => ?_)
        replace h := h.2
        rw [h9.2] at hS
        rw [h9.1]
        refine lv_topi (fun v2 ev2 => ?_)
        replace h := h v2 ev2
        refine lv_istore (lv' := [(6, .int v2), (0, .ref (ga X 19)), (1, .ref (gK X 1)), (3, .int x3), (4, .int x4), (5, .int x5)]) hx hb ddX0_readShape_23 hl (by decide) rfl (fun ls hl => ?_)
        refine lv_aload_n hx hb ddX0_readShape_25 rfl (lv_at hl 1 rfl) ?_
        refine lv_iload_n hx hb ddX0_readShape_26 rfl (lv_at hl 3 rfl) ?_
        refine k_VI (As := [.int x3]) (rest := []) (c_X0_characterAt l X h) mf_X0_characterAt lk1020 hx hb hml hown ht hK hZ hS hA 19 4 rfl rfl rfl ⟨rfl, rfl⟩ ⟨Nat.le_of_ble_eq_true rfl, Nat.le_of_ble_eq_true rfl⟩ rfl hl.1 rfl (Nat.le_of_ble_eq_true rfl) ⟨Nat.le_of_ble_eq_true rfl, Nat.le_of_ble_eq_true rfl⟩ ddX0_readShape_27 (fun r4 σ3 H locs hS h => ?_)
        refine lv_istore (lv' := [(7, .int r4), (6, .int v2), (0, .ref (ga X 19)), (1, .ref (gK X 1)), (3, .int x3), (4, .int x4), (5, .int x5)]) hx hb ddX0_readShape_30 hl (by decide) rfl (fun ls hl => ?_)
        refine lv_iload hx hb ddX0_readShape_32 (lv_at hl 1 rfl) ?_
        refine lv_bipush (v := (35 : Int32)) hx hb ddX0_readShape_34 (by decide) ?_
        refine lv_icmp_eq (tgt := 46) hx hb ddX0_readShape_36 (by decide) (fun c5 => ?_) (fun c5 => ?_)
        · replace h := h.1 c5
          exact hJ46 _ _ _ _ _ _ _ _ _ hS (lv_sub hl [2, 3, 4, 5, 6, 1, 0] rfl) h
        · replace h := h.2 c5
          refine lv_iload hx hb ddX0_readShape_39 (lv_at hl 1 rfl) ?_
          refine lv_bipush (v := (37 : Int32)) hx hb ddX0_readShape_41 (by decide) ?_
          refine lv_icmp_ne (tgt := 50) hx hb ddX0_readShape_43 (by decide) (fun c26 => ?_) (fun c26 => ?_)
          · replace h := h.1 c26
            refine lv_iconst (v := (0 : Int32)) hx hb ddX0_readShape_50 (by decide) ?_
            exact hJ51 _ _ _ _ _ _ _ _ _ _ hS (lv_sub hl [2, 3, 4, 5, 6, 1, 0] rfl) h
          · replace h := h.2 c26
            exact hJ46 _ _ _ _ _ _ _ _ _ hS (lv_sub hl [2, 3, 4, 5, 6, 1, 0] rfl) h
  unfold wp_X0_readShape_1 at h
  refine lv_iload_n hx hb ddX0_readShape_0 rfl (lv_at hl 2 rfl) ?_
  refine lv_istore_n (lv' := [(3, .int x2), (0, .ref (ga X 19)), (1, .ref (gK X 1)), (2, .int x2)]) hx hb ddX0_readShape_1 rfl hl (by decide) rfl (fun ls hl => ?_)
  refine lv_iconst (v := (0 : Int32)) hx hb ddX0_readShape_2 (by decide) ?_
  refine lv_istore (lv' := [(4, .int (0 : Int32)), (3, .int x2), (0, .ref (ga X 19)), (1, .ref (gK X 1)), (2, .int x2)]) hx hb ddX0_readShape_3 hl (by decide) rfl (fun ls hl => ?_)
  refine lv_iconst (v := (0 : Int32)) hx hb ddX0_readShape_5 (by decide) ?_
  refine lv_istore (lv' := [(5, .int (0 : Int32)), (4, .int (0 : Int32)), (3, .int x2), (0, .ref (ga X 19)), (1, .ref (gK X 1)), (2, .int x2)]) hx hb ddX0_readShape_6 hl (by decide) rfl (fun ls hl => ?_)
  obtain ⟨n, h⟩ := h
  exact hL8 n _ _ _ _ _ _ _ hS (lv_sub hl [3, 4, 2, 1, 0] rfl) h

set_option maxHeartbeats 4000000 in
set_option maxRecDepth 100000 in
theorem c_X0_readShape_2 (l : Launch) (X : GX) {x2 : Int32} {σ : Mem} {K : Int32 → Mem → Prop} (h : wp_X0_readShape_2 x2 σ K) : MI l X yX0_readShape cX0_readShape 11 ((Option.some Jvm.ClassFile.FieldType.int)) ({ frames := 4, cells := 0, slots := 0, locals := 85 } : Room) [.ref (ga X 19), .ref (gK X 2), .int x2] σ K := by
  refine ent_met (QQ := fun A => va_Qi K (BW X A) A) (by decide) (Nat.le_of_ble_eq_true rfl) ?_
  intro p e s m args below meth c A ls hx hb hr hlocks hml hown ht hK hZ hA hS hl
  have hown : s.vm.findClass "GuardRoster$CommandText" = some m.cls := hown
  have hl : lv_has ls 11 [(0, .ref (ga X 19)), (1, .ref (gK X 2)), (2, .int x2)] := hl
  have hJ76 : ∀ (x3 : Int32) (σ : Mem) (H : Heap) (locs : List Loc) (ls : Array Slot), WS X A s.heap σ H locs → lv_has ls 11 [(0, .ref (ga X 19)), (3, .int x3)] → wpJ_X0_readShape_2_76 K x3 σ → WI X K p l e ({ frames := 4, cells := 0, slots := 0, locals := 85 } : Room) s m args below meth c A H locs (F0 m 76 ls []) := by
    intro x3 σ H locs ls hS hl h
    unfold wpJ_X0_readShape_2_76 at h
    refine lv_aload_n hx hb ddX0_readShape_76 rfl (lv_at hl 0 rfl) ?_
    refine lv_iload_n hx hb ddX0_readShape_77 rfl (lv_at hl 1 rfl) ?_
    refine put_19_5 hx hb hown ht hK hS lk94 ddX0_readShape_78 (fun H locs hS => ?_)
    obtain ⟨σ22, eσ22⟩ : ∃ y : Mem, y = (st σ 19 5 x3) := ⟨_, rfl⟩
    rw [← eσ22] at hS
    replace h := h σ22 eσ22
    refine lv_iconst (v := (-1 : Int32)) hx hb ddX0_readShape_81 (by decide) ?_
    exact k_iret hx hb hr hlocks hK hS h ddX0_readShape_82
  have hJ66 : ∀ (x3 : Int32) (σ : Mem) (H : Heap) (locs : List Loc) (ls : Array Slot), WS X A s.heap σ H locs → lv_has ls 11 [(0, .ref (ga X 19)), (3, .int x3)] → wpJ_X0_readShape_2_66 K x3 σ → WI X K p l e ({ frames := 4, cells := 0, slots := 0, locals := 85 } : Room) s m args below meth c A H locs (F0 m 66 ls []) := by
    intro x3 σ H locs ls hS hl h
    unfold wpJ_X0_readShape_2_66 at h
    refine lv_goto (tgt := 76) hx hb ddX0_readShape_66 (by decide) ?_
    exact hJ76 _ _ _ _ _ hS (lv_sub hl [0, 1] rfl) h
  have hL8 : ∀ (n : Nat) (x3 x4 x5 : Int32) (σ : Mem) (H : Heap) (locs : List Loc) (ls : Array Slot), WS X A s.heap σ H locs → lv_has ls 11 [(0, .ref (ga X 19)), (1, .ref (gK X 2)), (3, .int x3), (4, .int x4), (5, .int x5)] → wlp (wpF_X0_readShape_2_8 K) n (x3, x4, x5, σ) → WI X K p l e ({ frames := 4, cells := 0, slots := 0, locals := 85 } : Room) s m args below meth c A H locs (F0 m 8 ls []) := by
    intro n8
    induction n8 with
    | zero => intro x3 x4 x5 σ H locs ls hS hl h; exact h.elim
    | succ n8 ih8 =>
      have hJ147 : ∀ (x3 x4 x5 : Int32) (σ : Mem) (H : Heap) (locs : List Loc) (ls : Array Slot), WS X A s.heap σ H locs → lv_has ls 11 [(0, .ref (ga X 19)), (1, .ref (gK X 2)), (3, .int x3), (4, .int x4), (5, .int x5)] → wpJ_X0_readShape_2_147 K (wlp (wpF_X0_readShape_2_8 K) n8) x3 x4 x5 σ → WI X K p l e ({ frames := 4, cells := 0, slots := 0, locals := 85 } : Room) s m args below meth c A H locs (F0 m 147 ls []) := by
        intro x3 x4 x5 σ H locs ls hS hl h
        unfold wpJ_X0_readShape_2_147 at h
        obtain ⟨v10, ev10⟩ : ∃ y : Int32, y = x5 + (1 : Int32) := ⟨_, rfl⟩
        replace h := h v10 ev10
        refine lv_iinc (v := v10) (lv' := [(5, .int v10), (0, .ref (ga X 19)), (1, .ref (gK X 2)), (3, .int x3), (4, .int x4)]) hx hb ddX0_readShape_147 hl (k := 4) rfl (by rw [ev10]; rfl) (by decide) rfl (fun ls hl => ?_)
        refine lv_goto (tgt := 8) hx hb ddX0_readShape_150 (by decide) ?_
        exact ih8 _ _ _ _ _ _ _ hS (lv_sub hl [1, 2, 3, 4, 0] rfl) h
      have hJ136 : ∀ (x3 x4 x5 x9 : Int32) (σ : Mem) (H : Heap) (locs : List Loc) (ls : Array Slot), WS X A s.heap σ H locs → lv_has ls 11 [(0, .ref (ga X 19)), (1, .ref (gK X 2)), (3, .int x3), (4, .int x4), (5, .int x5), (9, .int x9)] → wpJ_X0_readShape_2_136 K (wlp (wpF_X0_readShape_2_8 K) n8) x3 x4 x5 x9 σ → WI X K p l e ({ frames := 4, cells := 0, slots := 0, locals := 85 } : Room) s m args below meth c A H locs (F0 m 136 ls []) := by
        intro x3 x4 x5 x9 σ H locs ls hS hl h
        unfold wpJ_X0_readShape_2_136 at h
        refine lv_aload_n hx hb ddX0_readShape_136 rfl (lv_at hl 0 rfl) ?_
        refine lv_iload hx hb ddX0_readShape_137 (lv_at hl 3 rfl) ?_
        refine lv_iload hx hb ddX0_readShape_139 (lv_at hl 5 rfl) ?_
        refine k_VV (As := [.int x4, .int x9]) (rest := []) (c_X0_keepValue l X h) mf_X0_keepValue lk1027 hx hb hml hown ht hK hZ hS hA 19 4 rfl rfl rfl ⟨rfl, rfl⟩ ⟨Nat.le_of_ble_eq_true rfl, Nat.le_of_ble_eq_true rfl⟩ rfl hl.1 rfl (Nat.le_of_ble_eq_true rfl) ⟨Nat.le_of_ble_eq_true rfl, Nat.le_of_ble_eq_true rfl⟩ ddX0_readShape_141 (fun σ15 H locs hS h => ?_)
        obtain ⟨v16, ev16⟩ : ∃ y : Int32, y = x4 + (1 : Int32) := ⟨_, rfl⟩
        replace h := h v16 ev16
        refine lv_iinc (v := v16) (lv' := [(4, .int v16), (0, .ref (ga X 19)), (1, .ref (gK X 2)), (3, .int x3), (5, .int x5), (9, .int x9)]) hx hb ddX0_readShape_144 hl (k := 3) rfl (by rw [ev16]; rfl) (by decide) rfl (fun ls hl => ?_)
        exact hJ147 _ _ _ _ _ _ _ hS (lv_sub hl [1, 2, 3, 0, 4] rfl) h
      have hJ83 : ∀ (x3 x4 x5 x6 x7 x8 : Int32) (σ : Mem) (H : Heap) (locs : List Loc) (ls : Array Slot), WS X A s.heap σ H locs → lv_has ls 11 [(0, .ref (ga X 19)), (1, .ref (gK X 2)), (3, .int x3), (4, .int x4), (5, .int x5), (6, .int x6), (7, .int x7), (8, .int x8)] → wpJ_X0_readShape_2_83 K (wlp (wpF_X0_readShape_2_8 K) n8) x3 x4 x5 x6 x7 x8 σ → WI X K p l e ({ frames := 4, cells := 0, slots := 0, locals := 85 } : Room) s m args below meth c A H locs (F0 m 83 ls []) := by
        intro x3 x4 x5 x6 x7 x8 σ H locs ls hS hl h
        unfold wpJ_X0_readShape_2_83 at h
        obtain ⟨v8, ev8⟩ : ∃ y : Int32, y = x3 + (1 : Int32) := ⟨_, rfl⟩
        replace h := h v8 ev8
        refine lv_iinc (v := v8) (lv' := [(3, .int v8), (0, .ref (ga X 19)), (1, .ref (gK X 2)), (4, .int x4), (5, .int x5), (6, .int x6), (7, .int x7), (8, .int x8)]) hx hb ddX0_readShape_83 hl (k := 2) rfl (by rw [ev8]; rfl) (by decide) rfl (fun ls hl => ?_)
        refine lv_iload hx hb ddX0_readShape_86 (lv_at hl 7 rfl) ?_
        refine lv_if_eq (tgt := 147) hx hb ddX0_readShape_88 (by decide) (fun c9 => ?_) (fun c9 => ?_)
        · replace h := h.1 c9
          exact hJ147 _ _ _ _ _ _ _ hS (lv_sub hl [1, 2, 0, 3, 4] rfl) h
        · replace h := h.2 c9
          refine lv_iload hx hb ddX0_readShape_91 (lv_at hl 6 rfl) ?_
          refine lv_bipush (v := (48 : Int32)) hx hb ddX0_readShape_93 (by decide) ?_
          refine lv_isub hx hb ddX0_readShape_95 ?_
          refine lv_topi (fun v11 ev11 => ?_)
          replace h := h v11 ev11
          refine lv_istore (lv' := [(9, .int v11), (3, .int v8), (0, .ref (ga X 19)), (1, .ref (gK X 2)), (4, .int x4), (5, .int x5), (6, .int x6), (7, .int x7), (8, .int x8)]) hx hb ddX0_readShape_96 hl (by decide) rfl (fun ls hl => ?_)
          refine lv_aload_n hx hb ddX0_readShape_98 rfl (lv_at hl 2 rfl) ?_
          refine lv_iload_n hx hb ddX0_readShape_99 rfl (lv_at hl 1 rfl) ?_
          refine k_VI (As := [.int v8]) (rest := []) (c_X0_characterAt l X h) mf_X0_characterAt lk1020 hx hb hml hown ht hK hZ hS hA 19 4 rfl rfl rfl ⟨rfl, rfl⟩ ⟨Nat.le_of_ble_eq_true rfl, Nat.le_of_ble_eq_true rfl⟩ rfl hl.1 rfl (Nat.le_of_ble_eq_true rfl) ⟨Nat.le_of_ble_eq_true rfl, Nat.le_of_ble_eq_true rfl⟩ ddX0_readShape_100 (fun r13 σ12 H locs hS h => ?_)
          refine lv_istore (lv' := [(10, .int r13), (9, .int v11), (3, .int v8), (0, .ref (ga X 19)), (1, .ref (gK X 2)), (4, .int x4), (5, .int x5), (6, .int x6), (7, .int x7), (8, .int x8)]) hx hb ddX0_readShape_103 hl (by decide) rfl (fun ls hl => ?_)
          refine lv_iload hx hb ddX0_readShape_105 (lv_at hl 7 rfl) ?_
          refine lv_bipush (v := (37 : Int32)) hx hb ddX0_readShape_107 (by decide) ?_
          refine lv_icmp_ne (tgt := 136) hx hb ddX0_readShape_109 (by decide) (fun c14 => ?_) (fun c14 => ?_)
          · replace h := h.1 c14
            exact hJ136 _ _ _ _ _ _ _ _ hS (lv_sub hl [3, 4, 2, 5, 6, 1] rfl) h
          · replace h := h.2 c14
            refine lv_iload hx hb ddX0_readShape_112 (lv_at hl 0 rfl) ?_
            refine k_SI (As := [.int r13]) (rest := []) (c_X0_isDigit l X h) mf_X0_isDigit lk1024 hx hb hml hown ht hK hZ hS hA ⟨rfl, rfl⟩ ⟨Nat.le_of_ble_eq_true rfl, Nat.le_of_ble_eq_true rfl⟩ rfl hl.1 rfl (Nat.le_of_ble_eq_true rfl) ⟨Nat.le_of_ble_eq_true rfl, Nat.le_of_ble_eq_true rfl⟩ ddX0_readShape_114 (fun r18 σ17 H locs hS h => ?_)
            refine lv_if_eq (tgt := 136) hx hb ddX0_readShape_117 (by decide) (fun c19 => ?_) (fun c19 => ?_)
            · replace h := h.1 c19
              exact hJ136 _ _ _ _ _ _ _ _ hS (lv_sub hl [3, 4, 2, 5, 6, 1] rfl) h
            · replace h := h.2 c19
              refine lv_iload hx hb ddX0_readShape_120 (lv_at hl 1 rfl) ?_
              refine lv_bipush (v := (10 : Int32)) hx hb ddX0_readShape_122 (by decide) ?_
              refine lv_imul hx hb ddX0_readShape_124 ?_
              refine lv_iload hx hb ddX0_readShape_125 (lv_at hl 0 rfl) ?_
              refine lv_iadd hx hb ddX0_readShape_127 ?_
              refine lv_bipush (v := (48 : Int32)) hx hb ddX0_readShape_128 (by decide) ?_
              refine lv_isub hx hb ddX0_readShape_130 ?_
              refine lv_topi (fun v20 ev20 => ?_)
              replace h := h v20 ev20
              refine lv_istore (lv' := [(9, .int v20), (10, .int r13), (3, .int v8), (0, .ref (ga X 19)), (1, .ref (gK X 2)), (4, .int x4), (5, .int x5), (6, .int x6), (7, .int x7), (8, .int x8)]) hx hb ddX0_readShape_131 hl (by decide) rfl (fun ls hl => ?_)
              obtain ⟨v21, ev21⟩ : ∃ y : Int32, y = v8 + (1 : Int32) := ⟨_, rfl⟩
              replace h := h v21 ev21
              refine lv_iinc (v := v21) (lv' := [(3, .int v21), (9, .int v20), (10, .int r13), (0, .ref (ga X 19)), (1, .ref (gK X 2)), (4, .int x4), (5, .int x5), (6, .int x6), (7, .int x7), (8, .int x8)]) hx hb ddX0_readShape_133 hl (k := 2) rfl (by rw [ev21]; rfl) (by decide) rfl (fun ls hl => ?_)
              exact hJ136 _ _ _ _ _ _ _ _ hS (lv_sub hl [3, 4, 0, 5, 6, 1] rfl) h
      have hJ51 : ∀ (x3 x4 x5 x6 x7 y0 : Int32) (σ : Mem) (H : Heap) (locs : List Loc) (ls : Array Slot), WS X A s.heap σ H locs → lv_has ls 11 [(0, .ref (ga X 19)), (1, .ref (gK X 2)), (3, .int x3), (4, .int x4), (5, .int x5), (6, .int x6), (7, .int x7)] → wpJ_X0_readShape_2_51 K (wlp (wpF_X0_readShape_2_8 K) n8) x3 x4 x5 x6 x7 y0 σ → WI X K p l e ({ frames := 4, cells := 0, slots := 0, locals := 85 } : Room) s m args below meth c A H locs (F0 m 51 ls [.int y0]) := by
        intro x3 x4 x5 x6 x7 y0 σ H locs ls hS hl h
        unfold wpJ_X0_readShape_2_51 at h
        refine lv_istore (lv' := [(8, .int y0), (0, .ref (ga X 19)), (1, .ref (gK X 2)), (3, .int x3), (4, .int x4), (5, .int x5), (6, .int x6), (7, .int x7)]) hx hb ddX0_readShape_51 hl (by decide) rfl (fun ls hl => ?_)
        refine lv_iload hx hb ddX0_readShape_53 (lv_at hl 0 rfl) ?_
        refine lv_if_eq (tgt := 69) hx hb ddX0_readShape_55 (by decide) (fun c6 => ?_) (fun c6 => ?_)
        · replace h := h.1 c6
          refine lv_iload hx hb ddX0_readShape_69 (lv_at hl 7 rfl) ?_
          refine lv_iload hx hb ddX0_readShape_71 (lv_at hl 6 rfl) ?_
          refine lv_icmp_eq (tgt := 83) hx hb ddX0_readShape_73 (by decide) (fun c7 => ?_) (fun c7 => ?_)
          · replace h := h.1 c7
            exact hJ83 _ _ _ _ _ _ _ _ _ _ hS (lv_sub hl [1, 2, 3, 4, 5, 6, 7, 0] rfl) h
          · replace h := h.2 c7
            exact hJ76 _ _ _ _ _ hS (lv_sub hl [1, 3] rfl) h
        · replace h := h.2 c6
          refine lv_iload hx hb ddX0_readShape_58 (lv_at hl 7 rfl) ?_
          refine k_SI (As := [.int x7]) (rest := []) (c_X0_isDigit l X h) mf_X0_isDigit lk1024 hx hb hml hown ht hK hZ hS hA ⟨rfl, rfl⟩ ⟨Nat.le_of_ble_eq_true rfl, Nat.le_of_ble_eq_true rfl⟩ rfl hl.1 rfl (Nat.le_of_ble_eq_true rfl) ⟨Nat.le_of_ble_eq_true rfl, Nat.le_of_ble_eq_true rfl⟩ ddX0_readShape_60 (fun r24 σ23 H locs hS h => ?_)
          refine lv_if_ne (tgt := 83) hx hb ddX0_readShape_63 (by decide) (fun c25 => ?_) (fun c25 => ?_)
          · replace h := h.1 c25
            exact hJ83 _ _ _ _ _ _ _ _ _ _ hS (lv_sub hl [1, 2, 3, 4, 5, 6, 7, 0] rfl) h
          · replace h := h.2 c25
            exact hJ66 _ _ _ _ _ hS (lv_sub hl [1, 3] rfl) h
      have hJ46 : ∀ (x3 x4 x5 x6 x7 : Int32) (σ : Mem) (H : Heap) (locs : List Loc) (ls : Array Slot), WS X A s.heap σ H locs → lv_has ls 11 [(0, .ref (ga X 19)), (1, .ref (gK X 2)), (3, .int x3), (4, .int x4), (5, .int x5), (6, .int x6), (7, .int x7)] → wpJ_X0_readShape_2_46 K (wlp (wpF_X0_readShape_2_8 K) n8) x3 x4 x5 x6 x7 σ → WI X K p l e ({ frames := 4, cells := 0, slots := 0, locals := 85 } : Room) s m args below meth c A H locs (F0 m 46 ls []) := by
        intro x3 x4 x5 x6 x7 σ H locs ls hS hl h
        unfold wpJ_X0_readShape_2_46 at h
        refine lv_iconst (v := (1 : Int32)) hx hb ddX0_readShape_46 (by decide) ?_
        refine lv_goto (tgt := 51) hx hb ddX0_readShape_47 (by decide) ?_
        exact hJ51 _ _ _ _ _ _ _ _ _ _ hS (lv_sub hl [0, 1, 2, 3, 4, 5, 6] rfl) h
      intro x3 x4 x5 σ H locs ls hS hl h
      replace h : wpS_X0_readShape_2_8 K (wlp (wpF_X0_readShape_2_8 K) n8) x3 x4 x5 σ := h
      unfold wpS_X0_readShape_2_8 at h
      refine lv_iload hx hb ddX0_readShape_8 (lv_at hl 4 rfl) ?_
      refine lv_aload_n hx hb ddX0_readShape_10 rfl (lv_at hl 1 rfl) ?_
      refine k_RI (As := []) (rest := [.int x5]) (cS_length l X (i := 2) (by decide) (K := fun r s => r = (10 : Int32) ∧ s = σ) ⟨by decide, rfl⟩) mf_J0_length_8abf5 lk972 hx hb hml hown ht hK hZ hS hA (vk_recv hZ.1 (by decide) hS.2.2) ⟨rfl, rfl⟩ ⟨Nat.le_of_ble_eq_true rfl, Nat.le_of_ble_eq_true rfl⟩ rfl hl.1 rfl (Nat.le_of_ble_eq_true rfl) ⟨Nat.le_of_ble_eq_true rfl, Nat.le_of_ble_eq_true rfl⟩ ddX0_readShape_11 (fun r9 s9 H locs hS h9 => ?_)
      rw [h9.2] at hS
      rw [h9.1]
      refine lv_icmp_ge (tgt := 153) hx hb ddX0_readShape_14 (by decide) (fun c1 => ?_) (fun c1 => ?_)
      · replace h := h.1 c1
        refine lv_iload_n hx hb ddX0_readShape_153 rfl (lv_at hl 2 rfl) ?_
        exact k_iret hx hb hr hlocks hK hS h ddX0_readShape_154
      · replace h := h.2 c1
        refine lv_aload_n hx hb ddX0_readShape_17 rfl (lv_at hl 1 rfl) ?_
        refine lv_iload hx hb ddX0_readShape_18 (lv_at hl 4 rfl) ?_
        refine k_RI (As := [.int x5]) (rest := []) (cS_charAt l X (i := 2) (by decide) (K := fun r s => r = sch 2 x5 ∧ s = σ) ⟨h.1, rfl, rfl⟩) mf_J0_charAt_5068e lk982 hx hb hml hown ht hK hZ hS hA (vk_recv hZ.1 (by decide) hS.2.2) ⟨rfl, rfl⟩ ⟨Nat.le_of_ble_eq_true rfl, Nat.le_of_ble_eq_true rfl⟩ rfl hl.1 rfl (Nat.le_of_ble_eq_true rfl) ⟨Nat.le_of_ble_eq_true rfl, Nat.le_of_ble_eq_true rfl⟩ ddX0_readShape_20 (fun r9 s9 H locs hS h9 => ?_)
        replace h := h.2
        rw [h9.2] at hS
        rw [h9.1]
        refine lv_topi (fun v2 ev2 => ?_)
        replace h := h v2 ev2
        refine lv_istore (lv' := [(6, .int v2), (0, .ref (ga X 19)), (1, .ref (gK X 2)), (3, .int x3), (4, .int x4), (5, .int x5)]) hx hb ddX0_readShape_23 hl (by decide) rfl (fun ls hl => ?_)
        refine lv_aload_n hx hb ddX0_readShape_25 rfl (lv_at hl 1 rfl) ?_
        refine lv_iload_n hx hb ddX0_readShape_26 rfl (lv_at hl 3 rfl) ?_
        refine k_VI (As := [.int x3]) (rest := []) (c_X0_characterAt l X h) mf_X0_characterAt lk1020 hx hb hml hown ht hK hZ hS hA 19 4 rfl rfl rfl ⟨rfl, rfl⟩ ⟨Nat.le_of_ble_eq_true rfl, Nat.le_of_ble_eq_true rfl⟩ rfl hl.1 rfl (Nat.le_of_ble_eq_true rfl) ⟨Nat.le_of_ble_eq_true rfl, Nat.le_of_ble_eq_true rfl⟩ ddX0_readShape_27 (fun r4 σ3 H locs hS h => ?_)
        refine lv_istore (lv' := [(7, .int r4), (6, .int v2), (0, .ref (ga X 19)), (1, .ref (gK X 2)), (3, .int x3), (4, .int x4), (5, .int x5)]) hx hb ddX0_readShape_30 hl (by decide) rfl (fun ls hl => ?_)
        refine lv_iload hx hb ddX0_readShape_32 (lv_at hl 1 rfl) ?_
        refine lv_bipush (v := (35 : Int32)) hx hb ddX0_readShape_34 (by decide) ?_
        refine lv_icmp_eq (tgt := 46) hx hb ddX0_readShape_36 (by decide) (fun c5 => ?_) (fun c5 => ?_)
        · replace h := h.1 c5
          exact hJ46 _ _ _ _ _ _ _ _ _ hS (lv_sub hl [2, 3, 4, 5, 6, 1, 0] rfl) h
        · replace h := h.2 c5
          refine lv_iload hx hb ddX0_readShape_39 (lv_at hl 1 rfl) ?_
          refine lv_bipush (v := (37 : Int32)) hx hb ddX0_readShape_41 (by decide) ?_
          refine lv_icmp_ne (tgt := 50) hx hb ddX0_readShape_43 (by decide) (fun c26 => ?_) (fun c26 => ?_)
          · replace h := h.1 c26
            refine lv_iconst (v := (0 : Int32)) hx hb ddX0_readShape_50 (by decide) ?_
            exact hJ51 _ _ _ _ _ _ _ _ _ _ hS (lv_sub hl [2, 3, 4, 5, 6, 1, 0] rfl) h
          · replace h := h.2 c26
            exact hJ46 _ _ _ _ _ _ _ _ _ hS (lv_sub hl [2, 3, 4, 5, 6, 1, 0] rfl) h
  unfold wp_X0_readShape_2 at h
  refine lv_iload_n hx hb ddX0_readShape_0 rfl (lv_at hl 2 rfl) ?_
  refine lv_istore_n (lv' := [(3, .int x2), (0, .ref (ga X 19)), (1, .ref (gK X 2)), (2, .int x2)]) hx hb ddX0_readShape_1 rfl hl (by decide) rfl (fun ls hl => ?_)
  refine lv_iconst (v := (0 : Int32)) hx hb ddX0_readShape_2 (by decide) ?_
  refine lv_istore (lv' := [(4, .int (0 : Int32)), (3, .int x2), (0, .ref (ga X 19)), (1, .ref (gK X 2)), (2, .int x2)]) hx hb ddX0_readShape_3 hl (by decide) rfl (fun ls hl => ?_)
  refine lv_iconst (v := (0 : Int32)) hx hb ddX0_readShape_5 (by decide) ?_
  refine lv_istore (lv' := [(5, .int (0 : Int32)), (4, .int (0 : Int32)), (3, .int x2), (0, .ref (ga X 19)), (1, .ref (gK X 2)), (2, .int x2)]) hx hb ddX0_readShape_6 hl (by decide) rfl (fun ls hl => ?_)
  obtain ⟨n, h⟩ := h
  exact hL8 n _ _ _ _ _ _ _ hS (lv_sub hl [3, 4, 2, 1, 0] rfl) h

set_option maxHeartbeats 4000000 in
set_option maxRecDepth 100000 in
theorem c_X0_readShape_3 (l : Launch) (X : GX) {x2 : Int32} {σ : Mem} {K : Int32 → Mem → Prop} (h : wp_X0_readShape_3 x2 σ K) : MI l X yX0_readShape cX0_readShape 11 ((Option.some Jvm.ClassFile.FieldType.int)) ({ frames := 4, cells := 0, slots := 0, locals := 85 } : Room) [.ref (ga X 19), .ref (gK X 3), .int x2] σ K := by
  refine ent_met (QQ := fun A => va_Qi K (BW X A) A) (by decide) (Nat.le_of_ble_eq_true rfl) ?_
  intro p e s m args below meth c A ls hx hb hr hlocks hml hown ht hK hZ hA hS hl
  have hown : s.vm.findClass "GuardRoster$CommandText" = some m.cls := hown
  have hl : lv_has ls 11 [(0, .ref (ga X 19)), (1, .ref (gK X 3)), (2, .int x2)] := hl
  have hJ76 : ∀ (x3 : Int32) (σ : Mem) (H : Heap) (locs : List Loc) (ls : Array Slot), WS X A s.heap σ H locs → lv_has ls 11 [(0, .ref (ga X 19)), (3, .int x3)] → wpJ_X0_readShape_3_76 K x3 σ → WI X K p l e ({ frames := 4, cells := 0, slots := 0, locals := 85 } : Room) s m args below meth c A H locs (F0 m 76 ls []) := by
    intro x3 σ H locs ls hS hl h
    unfold wpJ_X0_readShape_3_76 at h
    refine lv_aload_n hx hb ddX0_readShape_76 rfl (lv_at hl 0 rfl) ?_
    refine lv_iload_n hx hb ddX0_readShape_77 rfl (lv_at hl 1 rfl) ?_
    refine put_19_5 hx hb hown ht hK hS lk94 ddX0_readShape_78 (fun H locs hS => ?_)
    obtain ⟨σ22, eσ22⟩ : ∃ y : Mem, y = (st σ 19 5 x3) := ⟨_, rfl⟩
    rw [← eσ22] at hS
    replace h := h σ22 eσ22
    refine lv_iconst (v := (-1 : Int32)) hx hb ddX0_readShape_81 (by decide) ?_
    exact k_iret hx hb hr hlocks hK hS h ddX0_readShape_82
  have hJ66 : ∀ (x3 : Int32) (σ : Mem) (H : Heap) (locs : List Loc) (ls : Array Slot), WS X A s.heap σ H locs → lv_has ls 11 [(0, .ref (ga X 19)), (3, .int x3)] → wpJ_X0_readShape_3_66 K x3 σ → WI X K p l e ({ frames := 4, cells := 0, slots := 0, locals := 85 } : Room) s m args below meth c A H locs (F0 m 66 ls []) := by
    intro x3 σ H locs ls hS hl h
    unfold wpJ_X0_readShape_3_66 at h
    refine lv_goto (tgt := 76) hx hb ddX0_readShape_66 (by decide) ?_
    exact hJ76 _ _ _ _ _ hS (lv_sub hl [0, 1] rfl) h
  have hL8 : ∀ (n : Nat) (x3 x4 x5 : Int32) (σ : Mem) (H : Heap) (locs : List Loc) (ls : Array Slot), WS X A s.heap σ H locs → lv_has ls 11 [(0, .ref (ga X 19)), (1, .ref (gK X 3)), (3, .int x3), (4, .int x4), (5, .int x5)] → wlp (wpF_X0_readShape_3_8 K) n (x3, x4, x5, σ) → WI X K p l e ({ frames := 4, cells := 0, slots := 0, locals := 85 } : Room) s m args below meth c A H locs (F0 m 8 ls []) := by
    intro n8
    induction n8 with
    | zero => intro x3 x4 x5 σ H locs ls hS hl h; exact h.elim
    | succ n8 ih8 =>
      have hJ147 : ∀ (x3 x4 x5 : Int32) (σ : Mem) (H : Heap) (locs : List Loc) (ls : Array Slot), WS X A s.heap σ H locs → lv_has ls 11 [(0, .ref (ga X 19)), (1, .ref (gK X 3)), (3, .int x3), (4, .int x4), (5, .int x5)] → wpJ_X0_readShape_3_147 K (wlp (wpF_X0_readShape_3_8 K) n8) x3 x4 x5 σ → WI X K p l e ({ frames := 4, cells := 0, slots := 0, locals := 85 } : Room) s m args below meth c A H locs (F0 m 147 ls []) := by
        intro x3 x4 x5 σ H locs ls hS hl h
        unfold wpJ_X0_readShape_3_147 at h
        obtain ⟨v10, ev10⟩ : ∃ y : Int32, y = x5 + (1 : Int32) := ⟨_, rfl⟩
        replace h := h v10 ev10
        refine lv_iinc (v := v10) (lv' := [(5, .int v10), (0, .ref (ga X 19)), (1, .ref (gK X 3)), (3, .int x3), (4, .int x4)]) hx hb ddX0_readShape_147 hl (k := 4) rfl (by rw [ev10]; rfl) (by decide) rfl (fun ls hl => ?_)
        refine lv_goto (tgt := 8) hx hb ddX0_readShape_150 (by decide) ?_
        exact ih8 _ _ _ _ _ _ _ hS (lv_sub hl [1, 2, 3, 4, 0] rfl) h
      have hJ136 : ∀ (x3 x4 x5 x9 : Int32) (σ : Mem) (H : Heap) (locs : List Loc) (ls : Array Slot), WS X A s.heap σ H locs → lv_has ls 11 [(0, .ref (ga X 19)), (1, .ref (gK X 3)), (3, .int x3), (4, .int x4), (5, .int x5), (9, .int x9)] → wpJ_X0_readShape_3_136 K (wlp (wpF_X0_readShape_3_8 K) n8) x3 x4 x5 x9 σ → WI X K p l e ({ frames := 4, cells := 0, slots := 0, locals := 85 } : Room) s m args below meth c A H locs (F0 m 136 ls []) := by
        intro x3 x4 x5 x9 σ H locs ls hS hl h
        unfold wpJ_X0_readShape_3_136 at h
        refine lv_aload_n hx hb ddX0_readShape_136 rfl (lv_at hl 0 rfl) ?_
        refine lv_iload hx hb ddX0_readShape_137 (lv_at hl 3 rfl) ?_
        refine lv_iload hx hb ddX0_readShape_139 (lv_at hl 5 rfl) ?_
        refine k_VV (As := [.int x4, .int x9]) (rest := []) (c_X0_keepValue l X h) mf_X0_keepValue lk1027 hx hb hml hown ht hK hZ hS hA 19 4 rfl rfl rfl ⟨rfl, rfl⟩ ⟨Nat.le_of_ble_eq_true rfl, Nat.le_of_ble_eq_true rfl⟩ rfl hl.1 rfl (Nat.le_of_ble_eq_true rfl) ⟨Nat.le_of_ble_eq_true rfl, Nat.le_of_ble_eq_true rfl⟩ ddX0_readShape_141 (fun σ15 H locs hS h => ?_)
        obtain ⟨v16, ev16⟩ : ∃ y : Int32, y = x4 + (1 : Int32) := ⟨_, rfl⟩
        replace h := h v16 ev16
        refine lv_iinc (v := v16) (lv' := [(4, .int v16), (0, .ref (ga X 19)), (1, .ref (gK X 3)), (3, .int x3), (5, .int x5), (9, .int x9)]) hx hb ddX0_readShape_144 hl (k := 3) rfl (by rw [ev16]; rfl) (by decide) rfl (fun ls hl => ?_)
        exact hJ147 _ _ _ _ _ _ _ hS (lv_sub hl [1, 2, 3, 0, 4] rfl) h
      have hJ83 : ∀ (x3 x4 x5 x6 x7 x8 : Int32) (σ : Mem) (H : Heap) (locs : List Loc) (ls : Array Slot), WS X A s.heap σ H locs → lv_has ls 11 [(0, .ref (ga X 19)), (1, .ref (gK X 3)), (3, .int x3), (4, .int x4), (5, .int x5), (6, .int x6), (7, .int x7), (8, .int x8)] → wpJ_X0_readShape_3_83 K (wlp (wpF_X0_readShape_3_8 K) n8) x3 x4 x5 x6 x7 x8 σ → WI X K p l e ({ frames := 4, cells := 0, slots := 0, locals := 85 } : Room) s m args below meth c A H locs (F0 m 83 ls []) := by
        intro x3 x4 x5 x6 x7 x8 σ H locs ls hS hl h
        unfold wpJ_X0_readShape_3_83 at h
        obtain ⟨v8, ev8⟩ : ∃ y : Int32, y = x3 + (1 : Int32) := ⟨_, rfl⟩
        replace h := h v8 ev8
        refine lv_iinc (v := v8) (lv' := [(3, .int v8), (0, .ref (ga X 19)), (1, .ref (gK X 3)), (4, .int x4), (5, .int x5), (6, .int x6), (7, .int x7), (8, .int x8)]) hx hb ddX0_readShape_83 hl (k := 2) rfl (by rw [ev8]; rfl) (by decide) rfl (fun ls hl => ?_)
        refine lv_iload hx hb ddX0_readShape_86 (lv_at hl 7 rfl) ?_
        refine lv_if_eq (tgt := 147) hx hb ddX0_readShape_88 (by decide) (fun c9 => ?_) (fun c9 => ?_)
        · replace h := h.1 c9
          exact hJ147 _ _ _ _ _ _ _ hS (lv_sub hl [1, 2, 0, 3, 4] rfl) h
        · replace h := h.2 c9
          refine lv_iload hx hb ddX0_readShape_91 (lv_at hl 6 rfl) ?_
          refine lv_bipush (v := (48 : Int32)) hx hb ddX0_readShape_93 (by decide) ?_
          refine lv_isub hx hb ddX0_readShape_95 ?_
          refine lv_topi (fun v11 ev11 => ?_)
          replace h := h v11 ev11
          refine lv_istore (lv' := [(9, .int v11), (3, .int v8), (0, .ref (ga X 19)), (1, .ref (gK X 3)), (4, .int x4), (5, .int x5), (6, .int x6), (7, .int x7), (8, .int x8)]) hx hb ddX0_readShape_96 hl (by decide) rfl (fun ls hl => ?_)
          refine lv_aload_n hx hb ddX0_readShape_98 rfl (lv_at hl 2 rfl) ?_
          refine lv_iload_n hx hb ddX0_readShape_99 rfl (lv_at hl 1 rfl) ?_
          refine k_VI (As := [.int v8]) (rest := []) (c_X0_characterAt l X h) mf_X0_characterAt lk1020 hx hb hml hown ht hK hZ hS hA 19 4 rfl rfl rfl ⟨rfl, rfl⟩ ⟨Nat.le_of_ble_eq_true rfl, Nat.le_of_ble_eq_true rfl⟩ rfl hl.1 rfl (Nat.le_of_ble_eq_true rfl) ⟨Nat.le_of_ble_eq_true rfl, Nat.le_of_ble_eq_true rfl⟩ ddX0_readShape_100 (fun r13 σ12 H locs hS h => ?_)
          refine lv_istore (lv' := [(10, .int r13), (9, .int v11), (3, .int v8), (0, .ref (ga X 19)), (1, .ref (gK X 3)), (4, .int x4), (5, .int x5), (6, .int x6), (7, .int x7), (8, .int x8)]) hx hb ddX0_readShape_103 hl (by decide) rfl (fun ls hl => ?_)
          refine lv_iload hx hb ddX0_readShape_105 (lv_at hl 7 rfl) ?_
          refine lv_bipush (v := (37 : Int32)) hx hb ddX0_readShape_107 (by decide) ?_
          refine lv_icmp_ne (tgt := 136) hx hb ddX0_readShape_109 (by decide) (fun c14 => ?_) (fun c14 => ?_)
          · replace h := h.1 c14
            exact hJ136 _ _ _ _ _ _ _ _ hS (lv_sub hl [3, 4, 2, 5, 6, 1] rfl) h
          · replace h := h.2 c14
            refine lv_iload hx hb ddX0_readShape_112 (lv_at hl 0 rfl) ?_
            refine k_SI (As := [.int r13]) (rest := []) (c_X0_isDigit l X h) mf_X0_isDigit lk1024 hx hb hml hown ht hK hZ hS hA ⟨rfl, rfl⟩ ⟨Nat.le_of_ble_eq_true rfl, Nat.le_of_ble_eq_true rfl⟩ rfl hl.1 rfl (Nat.le_of_ble_eq_true rfl) ⟨Nat.le_of_ble_eq_true rfl, Nat.le_of_ble_eq_true rfl⟩ ddX0_readShape_114 (fun r18 σ17 H locs hS h => ?_)
            refine lv_if_eq (tgt := 136) hx hb ddX0_readShape_117 (by decide) (fun c19 => ?_) (fun c19 => ?_)
            · replace h := h.1 c19
              exact hJ136 _ _ _ _ _ _ _ _ hS (lv_sub hl [3, 4, 2, 5, 6, 1] rfl) h
            · replace h := h.2 c19
              refine lv_iload hx hb ddX0_readShape_120 (lv_at hl 1 rfl) ?_
              refine lv_bipush (v := (10 : Int32)) hx hb ddX0_readShape_122 (by decide) ?_
              refine lv_imul hx hb ddX0_readShape_124 ?_
              refine lv_iload hx hb ddX0_readShape_125 (lv_at hl 0 rfl) ?_
              refine lv_iadd hx hb ddX0_readShape_127 ?_
              refine lv_bipush (v := (48 : Int32)) hx hb ddX0_readShape_128 (by decide) ?_
              refine lv_isub hx hb ddX0_readShape_130 ?_
              refine lv_topi (fun v20 ev20 => ?_)
              replace h := h v20 ev20
              refine lv_istore (lv' := [(9, .int v20), (10, .int r13), (3, .int v8), (0, .ref (ga X 19)), (1, .ref (gK X 3)), (4, .int x4), (5, .int x5), (6, .int x6), (7, .int x7), (8, .int x8)]) hx hb ddX0_readShape_131 hl (by decide) rfl (fun ls hl => ?_)
              obtain ⟨v21, ev21⟩ : ∃ y : Int32, y = v8 + (1 : Int32) := ⟨_, rfl⟩
              replace h := h v21 ev21
              refine lv_iinc (v := v21) (lv' := [(3, .int v21), (9, .int v20), (10, .int r13), (0, .ref (ga X 19)), (1, .ref (gK X 3)), (4, .int x4), (5, .int x5), (6, .int x6), (7, .int x7), (8, .int x8)]) hx hb ddX0_readShape_133 hl (k := 2) rfl (by rw [ev21]; rfl) (by decide) rfl (fun ls hl => ?_)
              exact hJ136 _ _ _ _ _ _ _ _ hS (lv_sub hl [3, 4, 0, 5, 6, 1] rfl) h
      have hJ51 : ∀ (x3 x4 x5 x6 x7 y0 : Int32) (σ : Mem) (H : Heap) (locs : List Loc) (ls : Array Slot), WS X A s.heap σ H locs → lv_has ls 11 [(0, .ref (ga X 19)), (1, .ref (gK X 3)), (3, .int x3), (4, .int x4), (5, .int x5), (6, .int x6), (7, .int x7)] → wpJ_X0_readShape_3_51 K (wlp (wpF_X0_readShape_3_8 K) n8) x3 x4 x5 x6 x7 y0 σ → WI X K p l e ({ frames := 4, cells := 0, slots := 0, locals := 85 } : Room) s m args below meth c A H locs (F0 m 51 ls [.int y0]) := by
        intro x3 x4 x5 x6 x7 y0 σ H locs ls hS hl h
        unfold wpJ_X0_readShape_3_51 at h
        refine lv_istore (lv' := [(8, .int y0), (0, .ref (ga X 19)), (1, .ref (gK X 3)), (3, .int x3), (4, .int x4), (5, .int x5), (6, .int x6), (7, .int x7)]) hx hb ddX0_readShape_51 hl (by decide) rfl (fun ls hl => ?_)
        refine lv_iload hx hb ddX0_readShape_53 (lv_at hl 0 rfl) ?_
        refine lv_if_eq (tgt := 69) hx hb ddX0_readShape_55 (by decide) (fun c6 => ?_) (fun c6 => ?_)
        · replace h := h.1 c6
          refine lv_iload hx hb ddX0_readShape_69 (lv_at hl 7 rfl) ?_
          refine lv_iload hx hb ddX0_readShape_71 (lv_at hl 6 rfl) ?_
          refine lv_icmp_eq (tgt := 83) hx hb ddX0_readShape_73 (by decide) (fun c7 => ?_) (fun c7 => ?_)
          · replace h := h.1 c7
            exact hJ83 _ _ _ _ _ _ _ _ _ _ hS (lv_sub hl [1, 2, 3, 4, 5, 6, 7, 0] rfl) h
          · replace h := h.2 c7
            exact hJ76 _ _ _ _ _ hS (lv_sub hl [1, 3] rfl) h
        · replace h := h.2 c6
          refine lv_iload hx hb ddX0_readShape_58 (lv_at hl 7 rfl) ?_
          refine k_SI (As := [.int x7]) (rest := []) (c_X0_isDigit l X h) mf_X0_isDigit lk1024 hx hb hml hown ht hK hZ hS hA ⟨rfl, rfl⟩ ⟨Nat.le_of_ble_eq_true rfl, Nat.le_of_ble_eq_true rfl⟩ rfl hl.1 rfl (Nat.le_of_ble_eq_true rfl) ⟨Nat.le_of_ble_eq_true rfl, Nat.le_of_ble_eq_true rfl⟩ ddX0_readShape_60 (fun r24 σ23 H locs hS h => ?_)
          refine lv_if_ne (tgt := 83) hx hb ddX0_readShape_63 (by decide) (fun c25 => ?_) (fun c25 => ?_)
          · replace h := h.1 c25
            exact hJ83 _ _ _ _ _ _ _ _ _ _ hS (lv_sub hl [1, 2, 3, 4, 5, 6, 7, 0] rfl) h
          · replace h := h.2 c25
            exact hJ66 _ _ _ _ _ hS (lv_sub hl [1, 3] rfl) h
      have hJ46 : ∀ (x3 x4 x5 x6 x7 : Int32) (σ : Mem) (H : Heap) (locs : List Loc) (ls : Array Slot), WS X A s.heap σ H locs → lv_has ls 11 [(0, .ref (ga X 19)), (1, .ref (gK X 3)), (3, .int x3), (4, .int x4), (5, .int x5), (6, .int x6), (7, .int x7)] → wpJ_X0_readShape_3_46 K (wlp (wpF_X0_readShape_3_8 K) n8) x3 x4 x5 x6 x7 σ → WI X K p l e ({ frames := 4, cells := 0, slots := 0, locals := 85 } : Room) s m args below meth c A H locs (F0 m 46 ls []) := by
        intro x3 x4 x5 x6 x7 σ H locs ls hS hl h
        unfold wpJ_X0_readShape_3_46 at h
        refine lv_iconst (v := (1 : Int32)) hx hb ddX0_readShape_46 (by decide) ?_
        refine lv_goto (tgt := 51) hx hb ddX0_readShape_47 (by decide) ?_
        exact hJ51 _ _ _ _ _ _ _ _ _ _ hS (lv_sub hl [0, 1, 2, 3, 4, 5, 6] rfl) h
      intro x3 x4 x5 σ H locs ls hS hl h
      replace h : wpS_X0_readShape_3_8 K (wlp (wpF_X0_readShape_3_8 K) n8) x3 x4 x5 σ := h
      unfold wpS_X0_readShape_3_8 at h
      refine lv_iload hx hb ddX0_readShape_8 (lv_at hl 4 rfl) ?_
      refine lv_aload_n hx hb ddX0_readShape_10 rfl (lv_at hl 1 rfl) ?_
      refine k_RI (As := []) (rest := [.int x5]) (cS_length l X (i := 3) (by decide) (K := fun r s => r = (8 : Int32) ∧ s = σ) ⟨by decide, rfl⟩) mf_J0_length_8abf5 lk972 hx hb hml hown ht hK hZ hS hA (vk_recv hZ.1 (by decide) hS.2.2) ⟨rfl, rfl⟩ ⟨Nat.le_of_ble_eq_true rfl, Nat.le_of_ble_eq_true rfl⟩ rfl hl.1 rfl (Nat.le_of_ble_eq_true rfl) ⟨Nat.le_of_ble_eq_true rfl, Nat.le_of_ble_eq_true rfl⟩ ddX0_readShape_11 (fun r9 s9 H locs hS h9 => ?_)
      rw [h9.2] at hS
      rw [h9.1]
      refine lv_icmp_ge (tgt := 153) hx hb ddX0_readShape_14 (by decide) (fun c1 => ?_) (fun c1 => ?_)
      · replace h := h.1 c1
        refine lv_iload_n hx hb ddX0_readShape_153 rfl (lv_at hl 2 rfl) ?_
        exact k_iret hx hb hr hlocks hK hS h ddX0_readShape_154
      · replace h := h.2 c1
        refine lv_aload_n hx hb ddX0_readShape_17 rfl (lv_at hl 1 rfl) ?_
        refine lv_iload hx hb ddX0_readShape_18 (lv_at hl 4 rfl) ?_
        refine k_RI (As := [.int x5]) (rest := []) (cS_charAt l X (i := 3) (by decide) (K := fun r s => r = sch 3 x5 ∧ s = σ) ⟨h.1, rfl, rfl⟩) mf_J0_charAt_5068e lk982 hx hb hml hown ht hK hZ hS hA (vk_recv hZ.1 (by decide) hS.2.2) ⟨rfl, rfl⟩ ⟨Nat.le_of_ble_eq_true rfl, Nat.le_of_ble_eq_true rfl⟩ rfl hl.1 rfl (Nat.le_of_ble_eq_true rfl) ⟨Nat.le_of_ble_eq_true rfl, Nat.le_of_ble_eq_true rfl⟩ ddX0_readShape_20 (fun r9 s9 H locs hS h9 => ?_)
        replace h := h.2
        rw [h9.2] at hS
        rw [h9.1]
        refine lv_topi (fun v2 ev2 => ?_)
        replace h := h v2 ev2
        refine lv_istore (lv' := [(6, .int v2), (0, .ref (ga X 19)), (1, .ref (gK X 3)), (3, .int x3), (4, .int x4), (5, .int x5)]) hx hb ddX0_readShape_23 hl (by decide) rfl (fun ls hl => ?_)
        refine lv_aload_n hx hb ddX0_readShape_25 rfl (lv_at hl 1 rfl) ?_
        refine lv_iload_n hx hb ddX0_readShape_26 rfl (lv_at hl 3 rfl) ?_
        refine k_VI (As := [.int x3]) (rest := []) (c_X0_characterAt l X h) mf_X0_characterAt lk1020 hx hb hml hown ht hK hZ hS hA 19 4 rfl rfl rfl ⟨rfl, rfl⟩ ⟨Nat.le_of_ble_eq_true rfl, Nat.le_of_ble_eq_true rfl⟩ rfl hl.1 rfl (Nat.le_of_ble_eq_true rfl) ⟨Nat.le_of_ble_eq_true rfl, Nat.le_of_ble_eq_true rfl⟩ ddX0_readShape_27 (fun r4 σ3 H locs hS h => ?_)
        refine lv_istore (lv' := [(7, .int r4), (6, .int v2), (0, .ref (ga X 19)), (1, .ref (gK X 3)), (3, .int x3), (4, .int x4), (5, .int x5)]) hx hb ddX0_readShape_30 hl (by decide) rfl (fun ls hl => ?_)
        refine lv_iload hx hb ddX0_readShape_32 (lv_at hl 1 rfl) ?_
        refine lv_bipush (v := (35 : Int32)) hx hb ddX0_readShape_34 (by decide) ?_
        refine lv_icmp_eq (tgt := 46) hx hb ddX0_readShape_36 (by decide) (fun c5 => ?_) (fun c5 => ?_)
        · replace h := h.1 c5
          exact hJ46 _ _ _ _ _ _ _ _ _ hS (lv_sub hl [2, 3, 4, 5, 6, 1, 0] rfl) h
        · replace h := h.2 c5
          refine lv_iload hx hb ddX0_readShape_39 (lv_at hl 1 rfl) ?_
          refine lv_bipush (v := (37 : Int32)) hx hb ddX0_readShape_41 (by decide) ?_
          refine lv_icmp_ne (tgt := 50) hx hb ddX0_readShape_43 (by decide) (fun c26 => ?_) (fun c26 => ?_)
          · replace h := h.1 c26
            refine lv_iconst (v := (0 : Int32)) hx hb ddX0_readShape_50 (by decide) ?_
            exact hJ51 _ _ _ _ _ _ _ _ _ _ hS (lv_sub hl [2, 3, 4, 5, 6, 1, 0] rfl) h
          · replace h := h.2 c26
            exact hJ46 _ _ _ _ _ _ _ _ _ hS (lv_sub hl [2, 3, 4, 5, 6, 1, 0] rfl) h
  unfold wp_X0_readShape_3 at h
  refine lv_iload_n hx hb ddX0_readShape_0 rfl (lv_at hl 2 rfl) ?_
  refine lv_istore_n (lv' := [(3, .int x2), (0, .ref (ga X 19)), (1, .ref (gK X 3)), (2, .int x2)]) hx hb ddX0_readShape_1 rfl hl (by decide) rfl (fun ls hl => ?_)
  refine lv_iconst (v := (0 : Int32)) hx hb ddX0_readShape_2 (by decide) ?_
  refine lv_istore (lv' := [(4, .int (0 : Int32)), (3, .int x2), (0, .ref (ga X 19)), (1, .ref (gK X 3)), (2, .int x2)]) hx hb ddX0_readShape_3 hl (by decide) rfl (fun ls hl => ?_)
  refine lv_iconst (v := (0 : Int32)) hx hb ddX0_readShape_5 (by decide) ?_
  refine lv_istore (lv' := [(5, .int (0 : Int32)), (4, .int (0 : Int32)), (3, .int x2), (0, .ref (ga X 19)), (1, .ref (gK X 3)), (2, .int x2)]) hx hb ddX0_readShape_6 hl (by decide) rfl (fun ls hl => ?_)
  obtain ⟨n, h⟩ := h
  exact hL8 n _ _ _ _ _ _ _ hS (lv_sub hl [3, 4, 2, 1, 0] rfl) h

set_option maxHeartbeats 4000000 in
set_option maxRecDepth 100000 in
theorem c_X0_readShape_4 (l : Launch) (X : GX) {x2 : Int32} {σ : Mem} {K : Int32 → Mem → Prop} (h : wp_X0_readShape_4 x2 σ K) : MI l X yX0_readShape cX0_readShape 11 ((Option.some Jvm.ClassFile.FieldType.int)) ({ frames := 4, cells := 0, slots := 0, locals := 85 } : Room) [.ref (ga X 19), .ref (gK X 4), .int x2] σ K := by
  refine ent_met (QQ := fun A => va_Qi K (BW X A) A) (by decide) (Nat.le_of_ble_eq_true rfl) ?_
  intro p e s m args below meth c A ls hx hb hr hlocks hml hown ht hK hZ hA hS hl
  have hown : s.vm.findClass "GuardRoster$CommandText" = some m.cls := hown
  have hl : lv_has ls 11 [(0, .ref (ga X 19)), (1, .ref (gK X 4)), (2, .int x2)] := hl
  have hJ76 : ∀ (x3 : Int32) (σ : Mem) (H : Heap) (locs : List Loc) (ls : Array Slot), WS X A s.heap σ H locs → lv_has ls 11 [(0, .ref (ga X 19)), (3, .int x3)] → wpJ_X0_readShape_4_76 K x3 σ → WI X K p l e ({ frames := 4, cells := 0, slots := 0, locals := 85 } : Room) s m args below meth c A H locs (F0 m 76 ls []) := by
    intro x3 σ H locs ls hS hl h
    unfold wpJ_X0_readShape_4_76 at h
    refine lv_aload_n hx hb ddX0_readShape_76 rfl (lv_at hl 0 rfl) ?_
    refine lv_iload_n hx hb ddX0_readShape_77 rfl (lv_at hl 1 rfl) ?_
    refine put_19_5 hx hb hown ht hK hS lk94 ddX0_readShape_78 (fun H locs hS => ?_)
    obtain ⟨σ22, eσ22⟩ : ∃ y : Mem, y = (st σ 19 5 x3) := ⟨_, rfl⟩
    rw [← eσ22] at hS
    replace h := h σ22 eσ22
    refine lv_iconst (v := (-1 : Int32)) hx hb ddX0_readShape_81 (by decide) ?_
    exact k_iret hx hb hr hlocks hK hS h ddX0_readShape_82
  have hJ66 : ∀ (x3 : Int32) (σ : Mem) (H : Heap) (locs : List Loc) (ls : Array Slot), WS X A s.heap σ H locs → lv_has ls 11 [(0, .ref (ga X 19)), (3, .int x3)] → wpJ_X0_readShape_4_66 K x3 σ → WI X K p l e ({ frames := 4, cells := 0, slots := 0, locals := 85 } : Room) s m args below meth c A H locs (F0 m 66 ls []) := by
    intro x3 σ H locs ls hS hl h
    unfold wpJ_X0_readShape_4_66 at h
    refine lv_goto (tgt := 76) hx hb ddX0_readShape_66 (by decide) ?_
    exact hJ76 _ _ _ _ _ hS (lv_sub hl [0, 1] rfl) h
  have hL8 : ∀ (n : Nat) (x3 x4 x5 : Int32) (σ : Mem) (H : Heap) (locs : List Loc) (ls : Array Slot), WS X A s.heap σ H locs → lv_has ls 11 [(0, .ref (ga X 19)), (1, .ref (gK X 4)), (3, .int x3), (4, .int x4), (5, .int x5)] → wlp (wpF_X0_readShape_4_8 K) n (x3, x4, x5, σ) → WI X K p l e ({ frames := 4, cells := 0, slots := 0, locals := 85 } : Room) s m args below meth c A H locs (F0 m 8 ls []) := by
    intro n8
    induction n8 with
    | zero => intro x3 x4 x5 σ H locs ls hS hl h; exact h.elim
    | succ n8 ih8 =>
      have hJ147 : ∀ (x3 x4 x5 : Int32) (σ : Mem) (H : Heap) (locs : List Loc) (ls : Array Slot), WS X A s.heap σ H locs → lv_has ls 11 [(0, .ref (ga X 19)), (1, .ref (gK X 4)), (3, .int x3), (4, .int x4), (5, .int x5)] → wpJ_X0_readShape_4_147 K (wlp (wpF_X0_readShape_4_8 K) n8) x3 x4 x5 σ → WI X K p l e ({ frames := 4, cells := 0, slots := 0, locals := 85 } : Room) s m args below meth c A H locs (F0 m 147 ls []) := by
        intro x3 x4 x5 σ H locs ls hS hl h
        unfold wpJ_X0_readShape_4_147 at h
        obtain ⟨v10, ev10⟩ : ∃ y : Int32, y = x5 + (1 : Int32) := ⟨_, rfl⟩
        replace h := h v10 ev10
        refine lv_iinc (v := v10) (lv' := [(5, .int v10), (0, .ref (ga X 19)), (1, .ref (gK X 4)), (3, .int x3), (4, .int x4)]) hx hb ddX0_readShape_147 hl (k := 4) rfl (by rw [ev10]; rfl) (by decide) rfl (fun ls hl => ?_)
        refine lv_goto (tgt := 8) hx hb ddX0_readShape_150 (by decide) ?_
        exact ih8 _ _ _ _ _ _ _ hS (lv_sub hl [1, 2, 3, 4, 0] rfl) h
      have hJ136 : ∀ (x3 x4 x5 x9 : Int32) (σ : Mem) (H : Heap) (locs : List Loc) (ls : Array Slot), WS X A s.heap σ H locs → lv_has ls 11 [(0, .ref (ga X 19)), (1, .ref (gK X 4)), (3, .int x3), (4, .int x4), (5, .int x5), (9, .int x9)] → wpJ_X0_readShape_4_136 K (wlp (wpF_X0_readShape_4_8 K) n8) x3 x4 x5 x9 σ → WI X K p l e ({ frames := 4, cells := 0, slots := 0, locals := 85 } : Room) s m args below meth c A H locs (F0 m 136 ls []) := by
        intro x3 x4 x5 x9 σ H locs ls hS hl h
        unfold wpJ_X0_readShape_4_136 at h
        refine lv_aload_n hx hb ddX0_readShape_136 rfl (lv_at hl 0 rfl) ?_
        refine lv_iload hx hb ddX0_readShape_137 (lv_at hl 3 rfl) ?_
        refine lv_iload hx hb ddX0_readShape_139 (lv_at hl 5 rfl) ?_
        refine k_VV (As := [.int x4, .int x9]) (rest := []) (c_X0_keepValue l X h) mf_X0_keepValue lk1027 hx hb hml hown ht hK hZ hS hA 19 4 rfl rfl rfl ⟨rfl, rfl⟩ ⟨Nat.le_of_ble_eq_true rfl, Nat.le_of_ble_eq_true rfl⟩ rfl hl.1 rfl (Nat.le_of_ble_eq_true rfl) ⟨Nat.le_of_ble_eq_true rfl, Nat.le_of_ble_eq_true rfl⟩ ddX0_readShape_141 (fun σ15 H locs hS h => ?_)
        obtain ⟨v16, ev16⟩ : ∃ y : Int32, y = x4 + (1 : Int32) := ⟨_, rfl⟩
        replace h := h v16 ev16
        refine lv_iinc (v := v16) (lv' := [(4, .int v16), (0, .ref (ga X 19)), (1, .ref (gK X 4)), (3, .int x3), (5, .int x5), (9, .int x9)]) hx hb ddX0_readShape_144 hl (k := 3) rfl (by rw [ev16]; rfl) (by decide) rfl (fun ls hl => ?_)
        exact hJ147 _ _ _ _ _ _ _ hS (lv_sub hl [1, 2, 3, 0, 4] rfl) h
      have hJ83 : ∀ (x3 x4 x5 x6 x7 x8 : Int32) (σ : Mem) (H : Heap) (locs : List Loc) (ls : Array Slot), WS X A s.heap σ H locs → lv_has ls 11 [(0, .ref (ga X 19)), (1, .ref (gK X 4)), (3, .int x3), (4, .int x4), (5, .int x5), (6, .int x6), (7, .int x7), (8, .int x8)] → wpJ_X0_readShape_4_83 K (wlp (wpF_X0_readShape_4_8 K) n8) x3 x4 x5 x6 x7 x8 σ → WI X K p l e ({ frames := 4, cells := 0, slots := 0, locals := 85 } : Room) s m args below meth c A H locs (F0 m 83 ls []) := by
        intro x3 x4 x5 x6 x7 x8 σ H locs ls hS hl h
        unfold wpJ_X0_readShape_4_83 at h
        obtain ⟨v8, ev8⟩ : ∃ y : Int32, y = x3 + (1 : Int32) := ⟨_, rfl⟩
        replace h := h v8 ev8
        refine lv_iinc (v := v8) (lv' := [(3, .int v8), (0, .ref (ga X 19)), (1, .ref (gK X 4)), (4, .int x4), (5, .int x5), (6, .int x6), (7, .int x7), (8, .int x8)]) hx hb ddX0_readShape_83 hl (k := 2) rfl (by rw [ev8]; rfl) (by decide) rfl (fun ls hl => ?_)
        refine lv_iload hx hb ddX0_readShape_86 (lv_at hl 7 rfl) ?_
        refine lv_if_eq (tgt := 147) hx hb ddX0_readShape_88 (by decide) (fun c9 => ?_) (fun c9 => ?_)
        · replace h := h.1 c9
          exact hJ147 _ _ _ _ _ _ _ hS (lv_sub hl [1, 2, 0, 3, 4] rfl) h
        · replace h := h.2 c9
          refine lv_iload hx hb ddX0_readShape_91 (lv_at hl 6 rfl) ?_
          refine lv_bipush (v := (48 : Int32)) hx hb ddX0_readShape_93 (by decide) ?_
          refine lv_isub hx hb ddX0_readShape_95 ?_
          refine lv_topi (fun v11 ev11 => ?_)
          replace h := h v11 ev11
          refine lv_istore (lv' := [(9, .int v11), (3, .int v8), (0, .ref (ga X 19)), (1, .ref (gK X 4)), (4, .int x4), (5, .int x5), (6, .int x6), (7, .int x7), (8, .int x8)]) hx hb ddX0_readShape_96 hl (by decide) rfl (fun ls hl => ?_)
          refine lv_aload_n hx hb ddX0_readShape_98 rfl (lv_at hl 2 rfl) ?_
          refine lv_iload_n hx hb ddX0_readShape_99 rfl (lv_at hl 1 rfl) ?_
          refine k_VI (As := [.int v8]) (rest := []) (c_X0_characterAt l X h) mf_X0_characterAt lk1020 hx hb hml hown ht hK hZ hS hA 19 4 rfl rfl rfl ⟨rfl, rfl⟩ ⟨Nat.le_of_ble_eq_true rfl, Nat.le_of_ble_eq_true rfl⟩ rfl hl.1 rfl (Nat.le_of_ble_eq_true rfl) ⟨Nat.le_of_ble_eq_true rfl, Nat.le_of_ble_eq_true rfl⟩ ddX0_readShape_100 (fun r13 σ12 H locs hS h => ?_)
          refine lv_istore (lv' := [(10, .int r13), (9, .int v11), (3, .int v8), (0, .ref (ga X 19)), (1, .ref (gK X 4)), (4, .int x4), (5, .int x5), (6, .int x6), (7, .int x7), (8, .int x8)]) hx hb ddX0_readShape_103 hl (by decide) rfl (fun ls hl => ?_)
          refine lv_iload hx hb ddX0_readShape_105 (lv_at hl 7 rfl) ?_
          refine lv_bipush (v := (37 : Int32)) hx hb ddX0_readShape_107 (by decide) ?_
          refine lv_icmp_ne (tgt := 136) hx hb ddX0_readShape_109 (by decide) (fun c14 => ?_) (fun c14 => ?_)
          · replace h := h.1 c14
            exact hJ136 _ _ _ _ _ _ _ _ hS (lv_sub hl [3, 4, 2, 5, 6, 1] rfl) h
          · replace h := h.2 c14
            refine lv_iload hx hb ddX0_readShape_112 (lv_at hl 0 rfl) ?_
            refine k_SI (As := [.int r13]) (rest := []) (c_X0_isDigit l X h) mf_X0_isDigit lk1024 hx hb hml hown ht hK hZ hS hA ⟨rfl, rfl⟩ ⟨Nat.le_of_ble_eq_true rfl, Nat.le_of_ble_eq_true rfl⟩ rfl hl.1 rfl (Nat.le_of_ble_eq_true rfl) ⟨Nat.le_of_ble_eq_true rfl, Nat.le_of_ble_eq_true rfl⟩ ddX0_readShape_114 (fun r18 σ17 H locs hS h => ?_)
            refine lv_if_eq (tgt := 136) hx hb ddX0_readShape_117 (by decide) (fun c19 => ?_) (fun c19 => ?_)
            · replace h := h.1 c19
              exact hJ136 _ _ _ _ _ _ _ _ hS (lv_sub hl [3, 4, 2, 5, 6, 1] rfl) h
            · replace h := h.2 c19
              refine lv_iload hx hb ddX0_readShape_120 (lv_at hl 1 rfl) ?_
              refine lv_bipush (v := (10 : Int32)) hx hb ddX0_readShape_122 (by decide) ?_
              refine lv_imul hx hb ddX0_readShape_124 ?_
              refine lv_iload hx hb ddX0_readShape_125 (lv_at hl 0 rfl) ?_
              refine lv_iadd hx hb ddX0_readShape_127 ?_
              refine lv_bipush (v := (48 : Int32)) hx hb ddX0_readShape_128 (by decide) ?_
              refine lv_isub hx hb ddX0_readShape_130 ?_
              refine lv_topi (fun v20 ev20 => ?_)
              replace h := h v20 ev20
              refine lv_istore (lv' := [(9, .int v20), (10, .int r13), (3, .int v8), (0, .ref (ga X 19)), (1, .ref (gK X 4)), (4, .int x4), (5, .int x5), (6, .int x6), (7, .int x7), (8, .int x8)]) hx hb ddX0_readShape_131 hl (by decide) rfl (fun ls hl => ?_)
              obtain ⟨v21, ev21⟩ : ∃ y : Int32, y = v8 + (1 : Int32) := ⟨_, rfl⟩
              replace h := h v21 ev21
              refine lv_iinc (v := v21) (lv' := [(3, .int v21), (9, .int v20), (10, .int r13), (0, .ref (ga X 19)), (1, .ref (gK X 4)), (4, .int x4), (5, .int x5), (6, .int x6), (7, .int x7), (8, .int x8)]) hx hb ddX0_readShape_133 hl (k := 2) rfl (by rw [ev21]; rfl) (by decide) rfl (fun ls hl => ?_)
              exact hJ136 _ _ _ _ _ _ _ _ hS (lv_sub hl [3, 4, 0, 5, 6, 1] rfl) h
      have hJ51 : ∀ (x3 x4 x5 x6 x7 y0 : Int32) (σ : Mem) (H : Heap) (locs : List Loc) (ls : Array Slot), WS X A s.heap σ H locs → lv_has ls 11 [(0, .ref (ga X 19)), (1, .ref (gK X 4)), (3, .int x3), (4, .int x4), (5, .int x5), (6, .int x6), (7, .int x7)] → wpJ_X0_readShape_4_51 K (wlp (wpF_X0_readShape_4_8 K) n8) x3 x4 x5 x6 x7 y0 σ → WI X K p l e ({ frames := 4, cells := 0, slots := 0, locals := 85 } : Room) s m args below meth c A H locs (F0 m 51 ls [.int y0]) := by
        intro x3 x4 x5 x6 x7 y0 σ H locs ls hS hl h
        unfold wpJ_X0_readShape_4_51 at h
        refine lv_istore (lv' := [(8, .int y0), (0, .ref (ga X 19)), (1, .ref (gK X 4)), (3, .int x3), (4, .int x4), (5, .int x5), (6, .int x6), (7, .int x7)]) hx hb ddX0_readShape_51 hl (by decide) rfl (fun ls hl => ?_)
        refine lv_iload hx hb ddX0_readShape_53 (lv_at hl 0 rfl) ?_
        refine lv_if_eq (tgt := 69) hx hb ddX0_readShape_55 (by decide) (fun c6 => ?_) (fun c6 => ?_)
        · replace h := h.1 c6
          refine lv_iload hx hb ddX0_readShape_69 (lv_at hl 7 rfl) ?_
          refine lv_iload hx hb ddX0_readShape_71 (lv_at hl 6 rfl) ?_
          refine lv_icmp_eq (tgt := 83) hx hb ddX0_readShape_73 (by decide) (fun c7 => ?_) (fun c7 => ?_)
          · replace h := h.1 c7
            exact hJ83 _ _ _ _ _ _ _ _ _ _ hS (lv_sub hl [1, 2, 3, 4, 5, 6, 7, 0] rfl) h
          · replace h := h.2 c7
            exact hJ76 _ _ _ _ _ hS (lv_sub hl [1, 3] rfl) h
        · replace h := h.2 c6
          refine lv_iload hx hb ddX0_readShape_58 (lv_at hl 7 rfl) ?_
          refine k_SI (As := [.int x7]) (rest := []) (c_X0_isDigit l X h) mf_X0_isDigit lk1024 hx hb hml hown ht hK hZ hS hA ⟨rfl, rfl⟩ ⟨Nat.le_of_ble_eq_true rfl, Nat.le_of_ble_eq_true rfl⟩ rfl hl.1 rfl (Nat.le_of_ble_eq_true rfl) ⟨Nat.le_of_ble_eq_true rfl, Nat.le_of_ble_eq_true rfl⟩ ddX0_readShape_60 (fun r24 σ23 H locs hS h => ?_)
          refine lv_if_ne (tgt := 83) hx hb ddX0_readShape_63 (by decide) (fun c25 => ?_) (fun c25 => ?_)
          · replace h := h.1 c25
            exact hJ83 _ _ _ _ _ _ _ _ _ _ hS (lv_sub hl [1, 2, 3, 4, 5, 6, 7, 0] rfl) h
          · replace h := h.2 c25
            exact hJ66 _ _ _ _ _ hS (lv_sub hl [1, 3] rfl) h
      have hJ46 : ∀ (x3 x4 x5 x6 x7 : Int32) (σ : Mem) (H : Heap) (locs : List Loc) (ls : Array Slot), WS X A s.heap σ H locs → lv_has ls 11 [(0, .ref (ga X 19)), (1, .ref (gK X 4)), (3, .int x3), (4, .int x4), (5, .int x5), (6, .int x6), (7, .int x7)] → wpJ_X0_readShape_4_46 K (wlp (wpF_X0_readShape_4_8 K) n8) x3 x4 x5 x6 x7 σ → WI X K p l e ({ frames := 4, cells := 0, slots := 0, locals := 85 } : Room) s m args below meth c A H locs (F0 m 46 ls []) := by
        intro x3 x4 x5 x6 x7 σ H locs ls hS hl h
        unfold wpJ_X0_readShape_4_46 at h
        refine lv_iconst (v := (1 : Int32)) hx hb ddX0_readShape_46 (by decide) ?_
        refine lv_goto (tgt := 51) hx hb ddX0_readShape_47 (by decide) ?_
        exact hJ51 _ _ _ _ _ _ _ _ _ _ hS (lv_sub hl [0, 1, 2, 3, 4, 5, 6] rfl) h
      intro x3 x4 x5 σ H locs ls hS hl h
      replace h : wpS_X0_readShape_4_8 K (wlp (wpF_X0_readShape_4_8 K) n8) x3 x4 x5 σ := h
      unfold wpS_X0_readShape_4_8 at h
      refine lv_iload hx hb ddX0_readShape_8 (lv_at hl 4 rfl) ?_
      refine lv_aload_n hx hb ddX0_readShape_10 rfl (lv_at hl 1 rfl) ?_
      refine k_RI (As := []) (rest := [.int x5]) (cS_length l X (i := 4) (by decide) (K := fun r s => r = (11 : Int32) ∧ s = σ) ⟨by decide, rfl⟩) mf_J0_length_8abf5 lk972 hx hb hml hown ht hK hZ hS hA (vk_recv hZ.1 (by decide) hS.2.2) ⟨rfl, rfl⟩ ⟨Nat.le_of_ble_eq_true rfl, Nat.le_of_ble_eq_true rfl⟩ rfl hl.1 rfl (Nat.le_of_ble_eq_true rfl) ⟨Nat.le_of_ble_eq_true rfl, Nat.le_of_ble_eq_true rfl⟩ ddX0_readShape_11 (fun r9 s9 H locs hS h9 => ?_)
      rw [h9.2] at hS
      rw [h9.1]
      refine lv_icmp_ge (tgt := 153) hx hb ddX0_readShape_14 (by decide) (fun c1 => ?_) (fun c1 => ?_)
      · replace h := h.1 c1
        refine lv_iload_n hx hb ddX0_readShape_153 rfl (lv_at hl 2 rfl) ?_
        exact k_iret hx hb hr hlocks hK hS h ddX0_readShape_154
      · replace h := h.2 c1
        refine lv_aload_n hx hb ddX0_readShape_17 rfl (lv_at hl 1 rfl) ?_
        refine lv_iload hx hb ddX0_readShape_18 (lv_at hl 4 rfl) ?_
        refine k_RI (As := [.int x5]) (rest := []) (cS_charAt l X (i := 4) (by decide) (K := fun r s => r = sch 4 x5 ∧ s = σ) ⟨h.1, rfl, rfl⟩) mf_J0_charAt_5068e lk982 hx hb hml hown ht hK hZ hS hA (vk_recv hZ.1 (by decide) hS.2.2) ⟨rfl, rfl⟩ ⟨Nat.le_of_ble_eq_true rfl, Nat.le_of_ble_eq_true rfl⟩ rfl hl.1 rfl (Nat.le_of_ble_eq_true rfl) ⟨Nat.le_of_ble_eq_true rfl, Nat.le_of_ble_eq_true rfl⟩ ddX0_readShape_20 (fun r9 s9 H locs hS h9 => ?_)
        replace h := h.2
        rw [h9.2] at hS
        rw [h9.1]
        refine lv_topi (fun v2 ev2 => ?_)
        replace h := h v2 ev2
        refine lv_istore (lv' := [(6, .int v2), (0, .ref (ga X 19)), (1, .ref (gK X 4)), (3, .int x3), (4, .int x4), (5, .int x5)]) hx hb ddX0_readShape_23 hl (by decide) rfl (fun ls hl => ?_)
        refine lv_aload_n hx hb ddX0_readShape_25 rfl (lv_at hl 1 rfl) ?_
        refine lv_iload_n hx hb ddX0_readShape_26 rfl (lv_at hl 3 rfl) ?_
        refine k_VI (As := [.int x3]) (rest := []) (c_X0_characterAt l X h) mf_X0_characterAt lk1020 hx hb hml hown ht hK hZ hS hA 19 4 rfl rfl rfl ⟨rfl, rfl⟩ ⟨Nat.le_of_ble_eq_true rfl, Nat.le_of_ble_eq_true rfl⟩ rfl hl.1 rfl (Nat.le_of_ble_eq_true rfl) ⟨Nat.le_of_ble_eq_true rfl, Nat.le_of_ble_eq_true rfl⟩ ddX0_readShape_27 (fun r4 σ3 H locs hS h => ?_)
        refine lv_istore (lv' := [(7, .int r4), (6, .int v2), (0, .ref (ga X 19)), (1, .ref (gK X 4)), (3, .int x3), (4, .int x4), (5, .int x5)]) hx hb ddX0_readShape_30 hl (by decide) rfl (fun ls hl => ?_)
        refine lv_iload hx hb ddX0_readShape_32 (lv_at hl 1 rfl) ?_
        refine lv_bipush (v := (35 : Int32)) hx hb ddX0_readShape_34 (by decide) ?_
        refine lv_icmp_eq (tgt := 46) hx hb ddX0_readShape_36 (by decide) (fun c5 => ?_) (fun c5 => ?_)
        · replace h := h.1 c5
          exact hJ46 _ _ _ _ _ _ _ _ _ hS (lv_sub hl [2, 3, 4, 5, 6, 1, 0] rfl) h
        · replace h := h.2 c5
          refine lv_iload hx hb ddX0_readShape_39 (lv_at hl 1 rfl) ?_
          refine lv_bipush (v := (37 : Int32)) hx hb ddX0_readShape_41 (by decide) ?_
          refine lv_icmp_ne (tgt := 50) hx hb ddX0_readShape_43 (by decide) (fun c26 => ?_) (fun c26 => ?_)
          · replace h := h.1 c26
            refine lv_iconst (v := (0 : Int32)) hx hb ddX0_readShape_50 (by decide) ?_
            exact hJ51 _ _ _ _ _ _ _ _ _ _ hS (lv_sub hl [2, 3, 4, 5, 6, 1, 0] rfl) h
          · replace h := h.2 c26
            exact hJ46 _ _ _ _ _ _ _ _ _ hS (lv_sub hl [2, 3, 4, 5, 6, 1, 0] rfl) h
  unfold wp_X0_readShape_4 at h
  refine lv_iload_n hx hb ddX0_readShape_0 rfl (lv_at hl 2 rfl) ?_
  refine lv_istore_n (lv' := [(3, .int x2), (0, .ref (ga X 19)), (1, .ref (gK X 4)), (2, .int x2)]) hx hb ddX0_readShape_1 rfl hl (by decide) rfl (fun ls hl => ?_)
  refine lv_iconst (v := (0 : Int32)) hx hb ddX0_readShape_2 (by decide) ?_
  refine lv_istore (lv' := [(4, .int (0 : Int32)), (3, .int x2), (0, .ref (ga X 19)), (1, .ref (gK X 4)), (2, .int x2)]) hx hb ddX0_readShape_3 hl (by decide) rfl (fun ls hl => ?_)
  refine lv_iconst (v := (0 : Int32)) hx hb ddX0_readShape_5 (by decide) ?_
  refine lv_istore (lv' := [(5, .int (0 : Int32)), (4, .int (0 : Int32)), (3, .int x2), (0, .ref (ga X 19)), (1, .ref (gK X 4)), (2, .int x2)]) hx hb ddX0_readShape_6 hl (by decide) rfl (fun ls hl => ?_)
  obtain ⟨n, h⟩ := h
  exact hL8 n _ _ _ _ _ _ _ hS (lv_sub hl [3, 4, 2, 1, 0] rfl) h

set_option maxHeartbeats 4000000 in
set_option maxRecDepth 100000 in
theorem c_X0_readShape_5 (l : Launch) (X : GX) {x2 : Int32} {σ : Mem} {K : Int32 → Mem → Prop} (h : wp_X0_readShape_5 x2 σ K) : MI l X yX0_readShape cX0_readShape 11 ((Option.some Jvm.ClassFile.FieldType.int)) ({ frames := 4, cells := 0, slots := 0, locals := 85 } : Room) [.ref (ga X 19), .ref (gK X 5), .int x2] σ K := by
  refine ent_met (QQ := fun A => va_Qi K (BW X A) A) (by decide) (Nat.le_of_ble_eq_true rfl) ?_
  intro p e s m args below meth c A ls hx hb hr hlocks hml hown ht hK hZ hA hS hl
  have hown : s.vm.findClass "GuardRoster$CommandText" = some m.cls := hown
  have hl : lv_has ls 11 [(0, .ref (ga X 19)), (1, .ref (gK X 5)), (2, .int x2)] := hl
  have hJ76 : ∀ (x3 : Int32) (σ : Mem) (H : Heap) (locs : List Loc) (ls : Array Slot), WS X A s.heap σ H locs → lv_has ls 11 [(0, .ref (ga X 19)), (3, .int x3)] → wpJ_X0_readShape_5_76 K x3 σ → WI X K p l e ({ frames := 4, cells := 0, slots := 0, locals := 85 } : Room) s m args below meth c A H locs (F0 m 76 ls []) := by
    intro x3 σ H locs ls hS hl h
    unfold wpJ_X0_readShape_5_76 at h
    refine lv_aload_n hx hb ddX0_readShape_76 rfl (lv_at hl 0 rfl) ?_
    refine lv_iload_n hx hb ddX0_readShape_77 rfl (lv_at hl 1 rfl) ?_
    refine put_19_5 hx hb hown ht hK hS lk94 ddX0_readShape_78 (fun H locs hS => ?_)
    obtain ⟨σ22, eσ22⟩ : ∃ y : Mem, y = (st σ 19 5 x3) := ⟨_, rfl⟩
    rw [← eσ22] at hS
    replace h := h σ22 eσ22
    refine lv_iconst (v := (-1 : Int32)) hx hb ddX0_readShape_81 (by decide) ?_
    exact k_iret hx hb hr hlocks hK hS h ddX0_readShape_82
  have hJ66 : ∀ (x3 : Int32) (σ : Mem) (H : Heap) (locs : List Loc) (ls : Array Slot), WS X A s.heap σ H locs → lv_has ls 11 [(0, .ref (ga X 19)), (3, .int x3)] → wpJ_X0_readShape_5_66 K x3 σ → WI X K p l e ({ frames := 4, cells := 0, slots := 0, locals := 85 } : Room) s m args below meth c A H locs (F0 m 66 ls []) := by
    intro x3 σ H locs ls hS hl h
    unfold wpJ_X0_readShape_5_66 at h
    refine lv_goto (tgt := 76) hx hb ddX0_readShape_66 (by decide) ?_
    exact hJ76 _ _ _ _ _ hS (lv_sub hl [0, 1] rfl) h
  have hL8 : ∀ (n : Nat) (x3 x4 x5 : Int32) (σ : Mem) (H : Heap) (locs : List Loc) (ls : Array Slot), WS X A s.heap σ H locs → lv_has ls 11 [(0, .ref (ga X 19)), (1, .ref (gK X 5)), (3, .int x3), (4, .int x4), (5, .int x5)] → wlp (wpF_X0_readShape_5_8 K) n (x3, x4, x5, σ) → WI X K p l e ({ frames := 4, cells := 0, slots := 0, locals := 85 } : Room) s m args below meth c A H locs (F0 m 8 ls []) := by
    intro n8
    induction n8 with
    | zero => intro x3 x4 x5 σ H locs ls hS hl h; exact h.elim
    | succ n8 ih8 =>
      have hJ147 : ∀ (x3 x4 x5 : Int32) (σ : Mem) (H : Heap) (locs : List Loc) (ls : Array Slot), WS X A s.heap σ H locs → lv_has ls 11 [(0, .ref (ga X 19)), (1, .ref (gK X 5)), (3, .int x3), (4, .int x4), (5, .int x5)] → wpJ_X0_readShape_5_147 K (wlp (wpF_X0_readShape_5_8 K) n8) x3 x4 x5 σ → WI X K p l e ({ frames := 4, cells := 0, slots := 0, locals := 85 } : Room) s m args below meth c A H locs (F0 m 147 ls []) := by
        intro x3 x4 x5 σ H locs ls hS hl h
        unfold wpJ_X0_readShape_5_147 at h
        obtain ⟨v10, ev10⟩ : ∃ y : Int32, y = x5 + (1 : Int32) := ⟨_, rfl⟩
        replace h := h v10 ev10
        refine lv_iinc (v := v10) (lv' := [(5, .int v10), (0, .ref (ga X 19)), (1, .ref (gK X 5)), (3, .int x3), (4, .int x4)]) hx hb ddX0_readShape_147 hl (k := 4) rfl (by rw [ev10]; rfl) (by decide) rfl (fun ls hl => ?_)
        refine lv_goto (tgt := 8) hx hb ddX0_readShape_150 (by decide) ?_
        exact ih8 _ _ _ _ _ _ _ hS (lv_sub hl [1, 2, 3, 4, 0] rfl) h
      have hJ136 : ∀ (x3 x4 x5 x9 : Int32) (σ : Mem) (H : Heap) (locs : List Loc) (ls : Array Slot), WS X A s.heap σ H locs → lv_has ls 11 [(0, .ref (ga X 19)), (1, .ref (gK X 5)), (3, .int x3), (4, .int x4), (5, .int x5), (9, .int x9)] → wpJ_X0_readShape_5_136 K (wlp (wpF_X0_readShape_5_8 K) n8) x3 x4 x5 x9 σ → WI X K p l e ({ frames := 4, cells := 0, slots := 0, locals := 85 } : Room) s m args below meth c A H locs (F0 m 136 ls []) := by
        intro x3 x4 x5 x9 σ H locs ls hS hl h
        unfold wpJ_X0_readShape_5_136 at h
        refine lv_aload_n hx hb ddX0_readShape_136 rfl (lv_at hl 0 rfl) ?_
        refine lv_iload hx hb ddX0_readShape_137 (lv_at hl 3 rfl) ?_
        refine lv_iload hx hb ddX0_readShape_139 (lv_at hl 5 rfl) ?_
        refine k_VV (As := [.int x4, .int x9]) (rest := []) (c_X0_keepValue l X h) mf_X0_keepValue lk1027 hx hb hml hown ht hK hZ hS hA 19 4 rfl rfl rfl ⟨rfl, rfl⟩ ⟨Nat.le_of_ble_eq_true rfl, Nat.le_of_ble_eq_true rfl⟩ rfl hl.1 rfl (Nat.le_of_ble_eq_true rfl) ⟨Nat.le_of_ble_eq_true rfl, Nat.le_of_ble_eq_true rfl⟩ ddX0_readShape_141 (fun σ15 H locs hS h => ?_)
        obtain ⟨v16, ev16⟩ : ∃ y : Int32, y = x4 + (1 : Int32) := ⟨_, rfl⟩
        replace h := h v16 ev16
        refine lv_iinc (v := v16) (lv' := [(4, .int v16), (0, .ref (ga X 19)), (1, .ref (gK X 5)), (3, .int x3), (5, .int x5), (9, .int x9)]) hx hb ddX0_readShape_144 hl (k := 3) rfl (by rw [ev16]; rfl) (by decide) rfl (fun ls hl => ?_)
        exact hJ147 _ _ _ _ _ _ _ hS (lv_sub hl [1, 2, 3, 0, 4] rfl) h
      have hJ83 : ∀ (x3 x4 x5 x6 x7 x8 : Int32) (σ : Mem) (H : Heap) (locs : List Loc) (ls : Array Slot), WS X A s.heap σ H locs → lv_has ls 11 [(0, .ref (ga X 19)), (1, .ref (gK X 5)), (3, .int x3), (4, .int x4), (5, .int x5), (6, .int x6), (7, .int x7), (8, .int x8)] → wpJ_X0_readShape_5_83 K (wlp (wpF_X0_readShape_5_8 K) n8) x3 x4 x5 x6 x7 x8 σ → WI X K p l e ({ frames := 4, cells := 0, slots := 0, locals := 85 } : Room) s m args below meth c A H locs (F0 m 83 ls []) := by
        intro x3 x4 x5 x6 x7 x8 σ H locs ls hS hl h
        unfold wpJ_X0_readShape_5_83 at h
        obtain ⟨v8, ev8⟩ : ∃ y : Int32, y = x3 + (1 : Int32) := ⟨_, rfl⟩
        replace h := h v8 ev8
        refine lv_iinc (v := v8) (lv' := [(3, .int v8), (0, .ref (ga X 19)), (1, .ref (gK X 5)), (4, .int x4), (5, .int x5), (6, .int x6), (7, .int x7), (8, .int x8)]) hx hb ddX0_readShape_83 hl (k := 2) rfl (by rw [ev8]; rfl) (by decide) rfl (fun ls hl => ?_)
        refine lv_iload hx hb ddX0_readShape_86 (lv_at hl 7 rfl) ?_
        refine lv_if_eq (tgt := 147) hx hb ddX0_readShape_88 (by decide) (fun c9 => ?_) (fun c9 => ?_)
        · replace h := h.1 c9
          exact hJ147 _ _ _ _ _ _ _ hS (lv_sub hl [1, 2, 0, 3, 4] rfl) h
        · replace h := h.2 c9
          refine lv_iload hx hb ddX0_readShape_91 (lv_at hl 6 rfl) ?_
          refine lv_bipush (v := (48 : Int32)) hx hb ddX0_readShape_93 (by decide) ?_
          refine lv_isub hx hb ddX0_readShape_95 ?_
          refine lv_topi (fun v11 ev11 => ?_)
          replace h := h v11 ev11
          refine lv_istore (lv' := [(9, .int v11), (3, .int v8), (0, .ref (ga X 19)), (1, .ref (gK X 5)), (4, .int x4), (5, .int x5), (6, .int x6), (7, .int x7), (8, .int x8)]) hx hb ddX0_readShape_96 hl (by decide) rfl (fun ls hl => ?_)
          refine lv_aload_n hx hb ddX0_readShape_98 rfl (lv_at hl 2 rfl) ?_
          refine lv_iload_n hx hb ddX0_readShape_99 rfl (lv_at hl 1 rfl) ?_
          refine k_VI (As := [.int v8]) (rest := []) (c_X0_characterAt l X h) mf_X0_characterAt lk1020 hx hb hml hown ht hK hZ hS hA 19 4 rfl rfl rfl ⟨rfl, rfl⟩ ⟨Nat.le_of_ble_eq_true rfl, Nat.le_of_ble_eq_true rfl⟩ rfl hl.1 rfl (Nat.le_of_ble_eq_true rfl) ⟨Nat.le_of_ble_eq_true rfl, Nat.le_of_ble_eq_true rfl⟩ ddX0_readShape_100 (fun r13 σ12 H locs hS h => ?_)
          refine lv_istore (lv' := [(10, .int r13), (9, .int v11), (3, .int v8), (0, .ref (ga X 19)), (1, .ref (gK X 5)), (4, .int x4), (5, .int x5), (6, .int x6), (7, .int x7), (8, .int x8)]) hx hb ddX0_readShape_103 hl (by decide) rfl (fun ls hl => ?_)
          refine lv_iload hx hb ddX0_readShape_105 (lv_at hl 7 rfl) ?_
          refine lv_bipush (v := (37 : Int32)) hx hb ddX0_readShape_107 (by decide) ?_
          refine lv_icmp_ne (tgt := 136) hx hb ddX0_readShape_109 (by decide) (fun c14 => ?_) (fun c14 => ?_)
          · replace h := h.1 c14
            exact hJ136 _ _ _ _ _ _ _ _ hS (lv_sub hl [3, 4, 2, 5, 6, 1] rfl) h
          · replace h := h.2 c14
            refine lv_iload hx hb ddX0_readShape_112 (lv_at hl 0 rfl) ?_
            refine k_SI (As := [.int r13]) (rest := []) (c_X0_isDigit l X h) mf_X0_isDigit lk1024 hx hb hml hown ht hK hZ hS hA ⟨rfl, rfl⟩ ⟨Nat.le_of_ble_eq_true rfl, Nat.le_of_ble_eq_true rfl⟩ rfl hl.1 rfl (Nat.le_of_ble_eq_true rfl) ⟨Nat.le_of_ble_eq_true rfl, Nat.le_of_ble_eq_true rfl⟩ ddX0_readShape_114 (fun r18 σ17 H locs hS h => ?_)
            refine lv_if_eq (tgt := 136) hx hb ddX0_readShape_117 (by decide) (fun c19 => ?_) (fun c19 => ?_)
            · replace h := h.1 c19
              exact hJ136 _ _ _ _ _ _ _ _ hS (lv_sub hl [3, 4, 2, 5, 6, 1] rfl) h
            · replace h := h.2 c19
              refine lv_iload hx hb ddX0_readShape_120 (lv_at hl 1 rfl) ?_
              refine lv_bipush (v := (10 : Int32)) hx hb ddX0_readShape_122 (by decide) ?_
              refine lv_imul hx hb ddX0_readShape_124 ?_
              refine lv_iload hx hb ddX0_readShape_125 (lv_at hl 0 rfl) ?_
              refine lv_iadd hx hb ddX0_readShape_127 ?_
              refine lv_bipush (v := (48 : Int32)) hx hb ddX0_readShape_128 (by decide) ?_
              refine lv_isub hx hb ddX0_readShape_130 ?_
              refine lv_topi (fun v20 ev20 => ?_)
              replace h := h v20 ev20
              refine lv_istore (lv' := [(9, .int v20), (10, .int r13), (3, .int v8), (0, .ref (ga X 19)), (1, .ref (gK X 5)), (4, .int x4), (5, .int x5), (6, .int x6), (7, .int x7), (8, .int x8)]) hx hb ddX0_readShape_131 hl (by decide) rfl (fun ls hl => ?_)
              obtain ⟨v21, ev21⟩ : ∃ y : Int32, y = v8 + (1 : Int32) := ⟨_, rfl⟩
              replace h := h v21 ev21
              refine lv_iinc (v := v21) (lv' := [(3, .int v21), (9, .int v20), (10, .int r13), (0, .ref (ga X 19)), (1, .ref (gK X 5)), (4, .int x4), (5, .int x5), (6, .int x6), (7, .int x7), (8, .int x8)]) hx hb ddX0_readShape_133 hl (k := 2) rfl (by rw [ev21]; rfl) (by decide) rfl (fun ls hl => ?_)
              exact hJ136 _ _ _ _ _ _ _ _ hS (lv_sub hl [3, 4, 0, 5, 6, 1] rfl) h
      have hJ51 : ∀ (x3 x4 x5 x6 x7 y0 : Int32) (σ : Mem) (H : Heap) (locs : List Loc) (ls : Array Slot), WS X A s.heap σ H locs → lv_has ls 11 [(0, .ref (ga X 19)), (1, .ref (gK X 5)), (3, .int x3), (4, .int x4), (5, .int x5), (6, .int x6), (7, .int x7)] → wpJ_X0_readShape_5_51 K (wlp (wpF_X0_readShape_5_8 K) n8) x3 x4 x5 x6 x7 y0 σ → WI X K p l e ({ frames := 4, cells := 0, slots := 0, locals := 85 } : Room) s m args below meth c A H locs (F0 m 51 ls [.int y0]) := by
        intro x3 x4 x5 x6 x7 y0 σ H locs ls hS hl h
        unfold wpJ_X0_readShape_5_51 at h
        refine lv_istore (lv' := [(8, .int y0), (0, .ref (ga X 19)), (1, .ref (gK X 5)), (3, .int x3), (4, .int x4), (5, .int x5), (6, .int x6), (7, .int x7)]) hx hb ddX0_readShape_51 hl (by decide) rfl (fun ls hl => ?_)
        refine lv_iload hx hb ddX0_readShape_53 (lv_at hl 0 rfl) ?_
        refine lv_if_eq (tgt := 69) hx hb ddX0_readShape_55 (by decide) (fun c6 => ?_) (fun c6 => ?_)
        · replace h := h.1 c6
          refine lv_iload hx hb ddX0_readShape_69 (lv_at hl 7 rfl) ?_
          refine lv_iload hx hb ddX0_readShape_71 (lv_at hl 6 rfl) ?_
          refine lv_icmp_eq (tgt := 83) hx hb ddX0_readShape_73 (by decide) (fun c7 => ?_) (fun c7 => ?_)
          · replace h := h.1 c7
            exact hJ83 _ _ _ _ _ _ _ _ _ _ hS (lv_sub hl [1, 2, 3, 4, 5, 6, 7, 0] rfl) h
          · replace h := h.2 c7
            exact hJ76 _ _ _ _ _ hS (lv_sub hl [1, 3] rfl) h
        · replace h := h.2 c6
          refine lv_iload hx hb ddX0_readShape_58 (lv_at hl 7 rfl) ?_
          refine k_SI (As := [.int x7]) (rest := []) (c_X0_isDigit l X h) mf_X0_isDigit lk1024 hx hb hml hown ht hK hZ hS hA ⟨rfl, rfl⟩ ⟨Nat.le_of_ble_eq_true rfl, Nat.le_of_ble_eq_true rfl⟩ rfl hl.1 rfl (Nat.le_of_ble_eq_true rfl) ⟨Nat.le_of_ble_eq_true rfl, Nat.le_of_ble_eq_true rfl⟩ ddX0_readShape_60 (fun r24 σ23 H locs hS h => ?_)
          refine lv_if_ne (tgt := 83) hx hb ddX0_readShape_63 (by decide) (fun c25 => ?_) (fun c25 => ?_)
          · replace h := h.1 c25
            exact hJ83 _ _ _ _ _ _ _ _ _ _ hS (lv_sub hl [1, 2, 3, 4, 5, 6, 7, 0] rfl) h
          · replace h := h.2 c25
            exact hJ66 _ _ _ _ _ hS (lv_sub hl [1, 3] rfl) h
      have hJ46 : ∀ (x3 x4 x5 x6 x7 : Int32) (σ : Mem) (H : Heap) (locs : List Loc) (ls : Array Slot), WS X A s.heap σ H locs → lv_has ls 11 [(0, .ref (ga X 19)), (1, .ref (gK X 5)), (3, .int x3), (4, .int x4), (5, .int x5), (6, .int x6), (7, .int x7)] → wpJ_X0_readShape_5_46 K (wlp (wpF_X0_readShape_5_8 K) n8) x3 x4 x5 x6 x7 σ → WI X K p l e ({ frames := 4, cells := 0, slots := 0, locals := 85 } : Room) s m args below meth c A H locs (F0 m 46 ls []) := by
        intro x3 x4 x5 x6 x7 σ H locs ls hS hl h
        unfold wpJ_X0_readShape_5_46 at h
        refine lv_iconst (v := (1 : Int32)) hx hb ddX0_readShape_46 (by decide) ?_
        refine lv_goto (tgt := 51) hx hb ddX0_readShape_47 (by decide) ?_
        exact hJ51 _ _ _ _ _ _ _ _ _ _ hS (lv_sub hl [0, 1, 2, 3, 4, 5, 6] rfl) h
      intro x3 x4 x5 σ H locs ls hS hl h
      replace h : wpS_X0_readShape_5_8 K (wlp (wpF_X0_readShape_5_8 K) n8) x3 x4 x5 σ := h
      unfold wpS_X0_readShape_5_8 at h
      refine lv_iload hx hb ddX0_readShape_8 (lv_at hl 4 rfl) ?_
      refine lv_aload_n hx hb ddX0_readShape_10 rfl (lv_at hl 1 rfl) ?_
      refine k_RI (As := []) (rest := [.int x5]) (cS_length l X (i := 5) (by decide) (K := fun r s => r = (6 : Int32) ∧ s = σ) ⟨by decide, rfl⟩) mf_J0_length_8abf5 lk972 hx hb hml hown ht hK hZ hS hA (vk_recv hZ.1 (by decide) hS.2.2) ⟨rfl, rfl⟩ ⟨Nat.le_of_ble_eq_true rfl, Nat.le_of_ble_eq_true rfl⟩ rfl hl.1 rfl (Nat.le_of_ble_eq_true rfl) ⟨Nat.le_of_ble_eq_true rfl, Nat.le_of_ble_eq_true rfl⟩ ddX0_readShape_11 (fun r9 s9 H locs hS h9 => ?_)
      rw [h9.2] at hS
      rw [h9.1]
      refine lv_icmp_ge (tgt := 153) hx hb ddX0_readShape_14 (by decide) (fun c1 => ?_) (fun c1 => ?_)
      · replace h := h.1 c1
        refine lv_iload_n hx hb ddX0_readShape_153 rfl (lv_at hl 2 rfl) ?_
        exact k_iret hx hb hr hlocks hK hS h ddX0_readShape_154
      · replace h := h.2 c1
        refine lv_aload_n hx hb ddX0_readShape_17 rfl (lv_at hl 1 rfl) ?_
        refine lv_iload hx hb ddX0_readShape_18 (lv_at hl 4 rfl) ?_
        refine k_RI (As := [.int x5]) (rest := []) (cS_charAt l X (i := 5) (by decide) (K := fun r s => r = sch 5 x5 ∧ s = σ) ⟨h.1, rfl, rfl⟩) mf_J0_charAt_5068e lk982 hx hb hml hown ht hK hZ hS hA (vk_recv hZ.1 (by decide) hS.2.2) ⟨rfl, rfl⟩ ⟨Nat.le_of_ble_eq_true rfl, Nat.le_of_ble_eq_true rfl⟩ rfl hl.1 rfl (Nat.le_of_ble_eq_true rfl) ⟨Nat.le_of_ble_eq_true rfl, Nat.le_of_ble_eq_true rfl⟩ ddX0_readShape_20 (fun r9 s9 H locs hS h9 => ?_)
        replace h := h.2
        rw [h9.2] at hS
        rw [h9.1]
        refine lv_topi (fun v2 ev2 => ?_)
        replace h := h v2 ev2
        refine lv_istore (lv' := [(6, .int v2), (0, .ref (ga X 19)), (1, .ref (gK X 5)), (3, .int x3), (4, .int x4), (5, .int x5)]) hx hb ddX0_readShape_23 hl (by decide) rfl (fun ls hl => ?_)
        refine lv_aload_n hx hb ddX0_readShape_25 rfl (lv_at hl 1 rfl) ?_
        refine lv_iload_n hx hb ddX0_readShape_26 rfl (lv_at hl 3 rfl) ?_
        refine k_VI (As := [.int x3]) (rest := []) (c_X0_characterAt l X h) mf_X0_characterAt lk1020 hx hb hml hown ht hK hZ hS hA 19 4 rfl rfl rfl ⟨rfl, rfl⟩ ⟨Nat.le_of_ble_eq_true rfl, Nat.le_of_ble_eq_true rfl⟩ rfl hl.1 rfl (Nat.le_of_ble_eq_true rfl) ⟨Nat.le_of_ble_eq_true rfl, Nat.le_of_ble_eq_true rfl⟩ ddX0_readShape_27 (fun r4 σ3 H locs hS h => ?_)
        refine lv_istore (lv' := [(7, .int r4), (6, .int v2), (0, .ref (ga X 19)), (1, .ref (gK X 5)), (3, .int x3), (4, .int x4), (5, .int x5)]) hx hb ddX0_readShape_30 hl (by decide) rfl (fun ls hl => ?_)
        refine lv_iload hx hb ddX0_readShape_32 (lv_at hl 1 rfl) ?_
        refine lv_bipush (v := (35 : Int32)) hx hb ddX0_readShape_34 (by decide) ?_
        refine lv_icmp_eq (tgt := 46) hx hb ddX0_readShape_36 (by decide) (fun c5 => ?_) (fun c5 => ?_)
        · replace h := h.1 c5
          exact hJ46 _ _ _ _ _ _ _ _ _ hS (lv_sub hl [2, 3, 4, 5, 6, 1, 0] rfl) h
        · replace h := h.2 c5
          refine lv_iload hx hb ddX0_readShape_39 (lv_at hl 1 rfl) ?_
          refine lv_bipush (v := (37 : Int32)) hx hb ddX0_readShape_41 (by decide) ?_
          refine lv_icmp_ne (tgt := 50) hx hb ddX0_readShape_43 (by decide) (fun c26 => ?_) (fun c26 => ?_)
          · replace h := h.1 c26
            refine lv_iconst (v := (0 : Int32)) hx hb ddX0_readShape_50 (by decide) ?_
            exact hJ51 _ _ _ _ _ _ _ _ _ _ hS (lv_sub hl [2, 3, 4, 5, 6, 1, 0] rfl) h
          · replace h := h.2 c26
            exact hJ46 _ _ _ _ _ _ _ _ _ hS (lv_sub hl [2, 3, 4, 5, 6, 1, 0] rfl) h
  unfold wp_X0_readShape_5 at h
  refine lv_iload_n hx hb ddX0_readShape_0 rfl (lv_at hl 2 rfl) ?_
  refine lv_istore_n (lv' := [(3, .int x2), (0, .ref (ga X 19)), (1, .ref (gK X 5)), (2, .int x2)]) hx hb ddX0_readShape_1 rfl hl (by decide) rfl (fun ls hl => ?_)
  refine lv_iconst (v := (0 : Int32)) hx hb ddX0_readShape_2 (by decide) ?_
  refine lv_istore (lv' := [(4, .int (0 : Int32)), (3, .int x2), (0, .ref (ga X 19)), (1, .ref (gK X 5)), (2, .int x2)]) hx hb ddX0_readShape_3 hl (by decide) rfl (fun ls hl => ?_)
  refine lv_iconst (v := (0 : Int32)) hx hb ddX0_readShape_5 (by decide) ?_
  refine lv_istore (lv' := [(5, .int (0 : Int32)), (4, .int (0 : Int32)), (3, .int x2), (0, .ref (ga X 19)), (1, .ref (gK X 5)), (2, .int x2)]) hx hb ddX0_readShape_6 hl (by decide) rfl (fun ls hl => ?_)
  obtain ⟨n, h⟩ := h
  exact hL8 n _ _ _ _ _ _ _ hS (lv_sub hl [3, 4, 2, 1, 0] rfl) h

set_option maxHeartbeats 4000000 in
set_option maxRecDepth 100000 in
theorem c_X0_readShape_6 (l : Launch) (X : GX) {x2 : Int32} {σ : Mem} {K : Int32 → Mem → Prop} (h : wp_X0_readShape_6 x2 σ K) : MI l X yX0_readShape cX0_readShape 11 ((Option.some Jvm.ClassFile.FieldType.int)) ({ frames := 4, cells := 0, slots := 0, locals := 85 } : Room) [.ref (ga X 19), .ref (gK X 6), .int x2] σ K := by
  refine ent_met (QQ := fun A => va_Qi K (BW X A) A) (by decide) (Nat.le_of_ble_eq_true rfl) ?_
  intro p e s m args below meth c A ls hx hb hr hlocks hml hown ht hK hZ hA hS hl
  have hown : s.vm.findClass "GuardRoster$CommandText" = some m.cls := hown
  have hl : lv_has ls 11 [(0, .ref (ga X 19)), (1, .ref (gK X 6)), (2, .int x2)] := hl
  have hJ76 : ∀ (x3 : Int32) (σ : Mem) (H : Heap) (locs : List Loc) (ls : Array Slot), WS X A s.heap σ H locs → lv_has ls 11 [(0, .ref (ga X 19)), (3, .int x3)] → wpJ_X0_readShape_6_76 K x3 σ → WI X K p l e ({ frames := 4, cells := 0, slots := 0, locals := 85 } : Room) s m args below meth c A H locs (F0 m 76 ls []) := by
    intro x3 σ H locs ls hS hl h
    unfold wpJ_X0_readShape_6_76 at h
    refine lv_aload_n hx hb ddX0_readShape_76 rfl (lv_at hl 0 rfl) ?_
    refine lv_iload_n hx hb ddX0_readShape_77 rfl (lv_at hl 1 rfl) ?_
    refine put_19_5 hx hb hown ht hK hS lk94 ddX0_readShape_78 (fun H locs hS => ?_)
    obtain ⟨σ22, eσ22⟩ : ∃ y : Mem, y = (st σ 19 5 x3) := ⟨_, rfl⟩
    rw [← eσ22] at hS
    replace h := h σ22 eσ22
    refine lv_iconst (v := (-1 : Int32)) hx hb ddX0_readShape_81 (by decide) ?_
    exact k_iret hx hb hr hlocks hK hS h ddX0_readShape_82
  have hJ66 : ∀ (x3 : Int32) (σ : Mem) (H : Heap) (locs : List Loc) (ls : Array Slot), WS X A s.heap σ H locs → lv_has ls 11 [(0, .ref (ga X 19)), (3, .int x3)] → wpJ_X0_readShape_6_66 K x3 σ → WI X K p l e ({ frames := 4, cells := 0, slots := 0, locals := 85 } : Room) s m args below meth c A H locs (F0 m 66 ls []) := by
    intro x3 σ H locs ls hS hl h
    unfold wpJ_X0_readShape_6_66 at h
    refine lv_goto (tgt := 76) hx hb ddX0_readShape_66 (by decide) ?_
    exact hJ76 _ _ _ _ _ hS (lv_sub hl [0, 1] rfl) h
  have hL8 : ∀ (n : Nat) (x3 x4 x5 : Int32) (σ : Mem) (H : Heap) (locs : List Loc) (ls : Array Slot), WS X A s.heap σ H locs → lv_has ls 11 [(0, .ref (ga X 19)), (1, .ref (gK X 6)), (3, .int x3), (4, .int x4), (5, .int x5)] → wlp (wpF_X0_readShape_6_8 K) n (x3, x4, x5, σ) → WI X K p l e ({ frames := 4, cells := 0, slots := 0, locals := 85 } : Room) s m args below meth c A H locs (F0 m 8 ls []) := by
    intro n8
    induction n8 with
    | zero => intro x3 x4 x5 σ H locs ls hS hl h; exact h.elim
    | succ n8 ih8 =>
      have hJ147 : ∀ (x3 x4 x5 : Int32) (σ : Mem) (H : Heap) (locs : List Loc) (ls : Array Slot), WS X A s.heap σ H locs → lv_has ls 11 [(0, .ref (ga X 19)), (1, .ref (gK X 6)), (3, .int x3), (4, .int x4), (5, .int x5)] → wpJ_X0_readShape_6_147 K (wlp (wpF_X0_readShape_6_8 K) n8) x3 x4 x5 σ → WI X K p l e ({ frames := 4, cells := 0, slots := 0, locals := 85 } : Room) s m args below meth c A H locs (F0 m 147 ls []) := by
        intro x3 x4 x5 σ H locs ls hS hl h
        unfold wpJ_X0_readShape_6_147 at h
        obtain ⟨v10, ev10⟩ : ∃ y : Int32, y = x5 + (1 : Int32) := ⟨_, rfl⟩
        replace h := h v10 ev10
        refine lv_iinc (v := v10) (lv' := [(5, .int v10), (0, .ref (ga X 19)), (1, .ref (gK X 6)), (3, .int x3), (4, .int x4)]) hx hb ddX0_readShape_147 hl (k := 4) rfl (by rw [ev10]; rfl) (by decide) rfl (fun ls hl => ?_)
        refine lv_goto (tgt := 8) hx hb ddX0_readShape_150 (by decide) ?_
        exact ih8 _ _ _ _ _ _ _ hS (lv_sub hl [1, 2, 3, 4, 0] rfl) h
      have hJ136 : ∀ (x3 x4 x5 x9 : Int32) (σ : Mem) (H : Heap) (locs : List Loc) (ls : Array Slot), WS X A s.heap σ H locs → lv_has ls 11 [(0, .ref (ga X 19)), (1, .ref (gK X 6)), (3, .int x3), (4, .int x4), (5, .int x5), (9, .int x9)] → wpJ_X0_readShape_6_136 K (wlp (wpF_X0_readShape_6_8 K) n8) x3 x4 x5 x9 σ → WI X K p l e ({ frames := 4, cells := 0, slots := 0, locals := 85 } : Room) s m args below meth c A H locs (F0 m 136 ls []) := by
        intro x3 x4 x5 x9 σ H locs ls hS hl h
        unfold wpJ_X0_readShape_6_136 at h
        refine lv_aload_n hx hb ddX0_readShape_136 rfl (lv_at hl 0 rfl) ?_
        refine lv_iload hx hb ddX0_readShape_137 (lv_at hl 3 rfl) ?_
        refine lv_iload hx hb ddX0_readShape_139 (lv_at hl 5 rfl) ?_
        refine k_VV (As := [.int x4, .int x9]) (rest := []) (c_X0_keepValue l X h) mf_X0_keepValue lk1027 hx hb hml hown ht hK hZ hS hA 19 4 rfl rfl rfl ⟨rfl, rfl⟩ ⟨Nat.le_of_ble_eq_true rfl, Nat.le_of_ble_eq_true rfl⟩ rfl hl.1 rfl (Nat.le_of_ble_eq_true rfl) ⟨Nat.le_of_ble_eq_true rfl, Nat.le_of_ble_eq_true rfl⟩ ddX0_readShape_141 (fun σ15 H locs hS h => ?_)
        obtain ⟨v16, ev16⟩ : ∃ y : Int32, y = x4 + (1 : Int32) := ⟨_, rfl⟩
        replace h := h v16 ev16
        refine lv_iinc (v := v16) (lv' := [(4, .int v16), (0, .ref (ga X 19)), (1, .ref (gK X 6)), (3, .int x3), (5, .int x5), (9, .int x9)]) hx hb ddX0_readShape_144 hl (k := 3) rfl (by rw [ev16]; rfl) (by decide) rfl (fun ls hl => ?_)
        exact hJ147 _ _ _ _ _ _ _ hS (lv_sub hl [1, 2, 3, 0, 4] rfl) h
      have hJ83 : ∀ (x3 x4 x5 x6 x7 x8 : Int32) (σ : Mem) (H : Heap) (locs : List Loc) (ls : Array Slot), WS X A s.heap σ H locs → lv_has ls 11 [(0, .ref (ga X 19)), (1, .ref (gK X 6)), (3, .int x3), (4, .int x4), (5, .int x5), (6, .int x6), (7, .int x7), (8, .int x8)] → wpJ_X0_readShape_6_83 K (wlp (wpF_X0_readShape_6_8 K) n8) x3 x4 x5 x6 x7 x8 σ → WI X K p l e ({ frames := 4, cells := 0, slots := 0, locals := 85 } : Room) s m args below meth c A H locs (F0 m 83 ls []) := by
        intro x3 x4 x5 x6 x7 x8 σ H locs ls hS hl h
        unfold wpJ_X0_readShape_6_83 at h
        obtain ⟨v8, ev8⟩ : ∃ y : Int32, y = x3 + (1 : Int32) := ⟨_, rfl⟩
        replace h := h v8 ev8
        refine lv_iinc (v := v8) (lv' := [(3, .int v8), (0, .ref (ga X 19)), (1, .ref (gK X 6)), (4, .int x4), (5, .int x5), (6, .int x6), (7, .int x7), (8, .int x8)]) hx hb ddX0_readShape_83 hl (k := 2) rfl (by rw [ev8]; rfl) (by decide) rfl (fun ls hl => ?_)
        refine lv_iload hx hb ddX0_readShape_86 (lv_at hl 7 rfl) ?_
        refine lv_if_eq (tgt := 147) hx hb ddX0_readShape_88 (by decide) (fun c9 => ?_) (fun c9 => ?_)
        · replace h := h.1 c9
          exact hJ147 _ _ _ _ _ _ _ hS (lv_sub hl [1, 2, 0, 3, 4] rfl) h
        · replace h := h.2 c9
          refine lv_iload hx hb ddX0_readShape_91 (lv_at hl 6 rfl) ?_
          refine lv_bipush (v := (48 : Int32)) hx hb ddX0_readShape_93 (by decide) ?_
          refine lv_isub hx hb ddX0_readShape_95 ?_
          refine lv_topi (fun v11 ev11 => ?_)
          replace h := h v11 ev11
          refine lv_istore (lv' := [(9, .int v11), (3, .int v8), (0, .ref (ga X 19)), (1, .ref (gK X 6)), (4, .int x4), (5, .int x5), (6, .int x6), (7, .int x7), (8, .int x8)]) hx hb ddX0_readShape_96 hl (by decide) rfl (fun ls hl => ?_)
          refine lv_aload_n hx hb ddX0_readShape_98 rfl (lv_at hl 2 rfl) ?_
          refine lv_iload_n hx hb ddX0_readShape_99 rfl (lv_at hl 1 rfl) ?_
          refine k_VI (As := [.int v8]) (rest := []) (c_X0_characterAt l X h) mf_X0_characterAt lk1020 hx hb hml hown ht hK hZ hS hA 19 4 rfl rfl rfl ⟨rfl, rfl⟩ ⟨Nat.le_of_ble_eq_true rfl, Nat.le_of_ble_eq_true rfl⟩ rfl hl.1 rfl (Nat.le_of_ble_eq_true rfl) ⟨Nat.le_of_ble_eq_true rfl, Nat.le_of_ble_eq_true rfl⟩ ddX0_readShape_100 (fun r13 σ12 H locs hS h => ?_)
          refine lv_istore (lv' := [(10, .int r13), (9, .int v11), (3, .int v8), (0, .ref (ga X 19)), (1, .ref (gK X 6)), (4, .int x4), (5, .int x5), (6, .int x6), (7, .int x7), (8, .int x8)]) hx hb ddX0_readShape_103 hl (by decide) rfl (fun ls hl => ?_)
          refine lv_iload hx hb ddX0_readShape_105 (lv_at hl 7 rfl) ?_
          refine lv_bipush (v := (37 : Int32)) hx hb ddX0_readShape_107 (by decide) ?_
          refine lv_icmp_ne (tgt := 136) hx hb ddX0_readShape_109 (by decide) (fun c14 => ?_) (fun c14 => ?_)
          · replace h := h.1 c14
            exact hJ136 _ _ _ _ _ _ _ _ hS (lv_sub hl [3, 4, 2, 5, 6, 1] rfl) h
          · replace h := h.2 c14
            refine lv_iload hx hb ddX0_readShape_112 (lv_at hl 0 rfl) ?_
            refine k_SI (As := [.int r13]) (rest := []) (c_X0_isDigit l X h) mf_X0_isDigit lk1024 hx hb hml hown ht hK hZ hS hA ⟨rfl, rfl⟩ ⟨Nat.le_of_ble_eq_true rfl, Nat.le_of_ble_eq_true rfl⟩ rfl hl.1 rfl (Nat.le_of_ble_eq_true rfl) ⟨Nat.le_of_ble_eq_true rfl, Nat.le_of_ble_eq_true rfl⟩ ddX0_readShape_114 (fun r18 σ17 H locs hS h => ?_)
            refine lv_if_eq (tgt := 136) hx hb ddX0_readShape_117 (by decide) (fun c19 => ?_) (fun c19 => ?_)
            · replace h := h.1 c19
              exact hJ136 _ _ _ _ _ _ _ _ hS (lv_sub hl [3, 4, 2, 5, 6, 1] rfl) h
            · replace h := h.2 c19
              refine lv_iload hx hb ddX0_readShape_120 (lv_at hl 1 rfl) ?_
              refine lv_bipush (v := (10 : Int32)) hx hb ddX0_readShape_122 (by decide) ?_
              refine lv_imul hx hb ddX0_readShape_124 ?_
              refine lv_iload hx hb ddX0_readShape_125 (lv_at hl 0 rfl) ?_
              refine lv_iadd hx hb ddX0_readShape_127 ?_
              refine lv_bipush (v := (48 : Int32)) hx hb ddX0_readShape_128 (by decide) ?_
              refine lv_isub hx hb ddX0_readShape_130 ?_
              refine lv_topi (fun v20 ev20 => ?_)
              replace h := h v20 ev20
              refine lv_istore (lv' := [(9, .int v20), (10, .int r13), (3, .int v8), (0, .ref (ga X 19)), (1, .ref (gK X 6)), (4, .int x4), (5, .int x5), (6, .int x6), (7, .int x7), (8, .int x8)]) hx hb ddX0_readShape_131 hl (by decide) rfl (fun ls hl => ?_)
              obtain ⟨v21, ev21⟩ : ∃ y : Int32, y = v8 + (1 : Int32) := ⟨_, rfl⟩
              replace h := h v21 ev21
              refine lv_iinc (v := v21) (lv' := [(3, .int v21), (9, .int v20), (10, .int r13), (0, .ref (ga X 19)), (1, .ref (gK X 6)), (4, .int x4), (5, .int x5), (6, .int x6), (7, .int x7), (8, .int x8)]) hx hb ddX0_readShape_133 hl (k := 2) rfl (by rw [ev21]; rfl) (by decide) rfl (fun ls hl => ?_)
              exact hJ136 _ _ _ _ _ _ _ _ hS (lv_sub hl [3, 4, 0, 5, 6, 1] rfl) h
      have hJ51 : ∀ (x3 x4 x5 x6 x7 y0 : Int32) (σ : Mem) (H : Heap) (locs : List Loc) (ls : Array Slot), WS X A s.heap σ H locs → lv_has ls 11 [(0, .ref (ga X 19)), (1, .ref (gK X 6)), (3, .int x3), (4, .int x4), (5, .int x5), (6, .int x6), (7, .int x7)] → wpJ_X0_readShape_6_51 K (wlp (wpF_X0_readShape_6_8 K) n8) x3 x4 x5 x6 x7 y0 σ → WI X K p l e ({ frames := 4, cells := 0, slots := 0, locals := 85 } : Room) s m args below meth c A H locs (F0 m 51 ls [.int y0]) := by
        intro x3 x4 x5 x6 x7 y0 σ H locs ls hS hl h
        unfold wpJ_X0_readShape_6_51 at h
        refine lv_istore (lv' := [(8, .int y0), (0, .ref (ga X 19)), (1, .ref (gK X 6)), (3, .int x3), (4, .int x4), (5, .int x5), (6, .int x6), (7, .int x7)]) hx hb ddX0_readShape_51 hl (by decide) rfl (fun ls hl => ?_)
        refine lv_iload hx hb ddX0_readShape_53 (lv_at hl 0 rfl) ?_
        refine lv_if_eq (tgt := 69) hx hb ddX0_readShape_55 (by decide) (fun c6 => ?_) (fun c6 => ?_)
        · replace h := h.1 c6
          refine lv_iload hx hb ddX0_readShape_69 (lv_at hl 7 rfl) ?_
          refine lv_iload hx hb ddX0_readShape_71 (lv_at hl 6 rfl) ?_
          refine lv_icmp_eq (tgt := 83) hx hb ddX0_readShape_73 (by decide) (fun c7 => ?_) (fun c7 => ?_)
          · replace h := h.1 c7
            exact hJ83 _ _ _ _ _ _ _ _ _ _ hS (lv_sub hl [1, 2, 3, 4, 5, 6, 7, 0] rfl) h
          · replace h := h.2 c7
            exact hJ76 _ _ _ _ _ hS (lv_sub hl [1, 3] rfl) h
        · replace h := h.2 c6
          refine lv_iload hx hb ddX0_readShape_58 (lv_at hl 7 rfl) ?_
          refine k_SI (As := [.int x7]) (rest := []) (c_X0_isDigit l X h) mf_X0_isDigit lk1024 hx hb hml hown ht hK hZ hS hA ⟨rfl, rfl⟩ ⟨Nat.le_of_ble_eq_true rfl, Nat.le_of_ble_eq_true rfl⟩ rfl hl.1 rfl (Nat.le_of_ble_eq_true rfl) ⟨Nat.le_of_ble_eq_true rfl, Nat.le_of_ble_eq_true rfl⟩ ddX0_readShape_60 (fun r24 σ23 H locs hS h => ?_)
          refine lv_if_ne (tgt := 83) hx hb ddX0_readShape_63 (by decide) (fun c25 => ?_) (fun c25 => ?_)
          · replace h := h.1 c25
            exact hJ83 _ _ _ _ _ _ _ _ _ _ hS (lv_sub hl [1, 2, 3, 4, 5, 6, 7, 0] rfl) h
          · replace h := h.2 c25
            exact hJ66 _ _ _ _ _ hS (lv_sub hl [1, 3] rfl) h
      have hJ46 : ∀ (x3 x4 x5 x6 x7 : Int32) (σ : Mem) (H : Heap) (locs : List Loc) (ls : Array Slot), WS X A s.heap σ H locs → lv_has ls 11 [(0, .ref (ga X 19)), (1, .ref (gK X 6)), (3, .int x3), (4, .int x4), (5, .int x5), (6, .int x6), (7, .int x7)] → wpJ_X0_readShape_6_46 K (wlp (wpF_X0_readShape_6_8 K) n8) x3 x4 x5 x6 x7 σ → WI X K p l e ({ frames := 4, cells := 0, slots := 0, locals := 85 } : Room) s m args below meth c A H locs (F0 m 46 ls []) := by
        intro x3 x4 x5 x6 x7 σ H locs ls hS hl h
        unfold wpJ_X0_readShape_6_46 at h
        refine lv_iconst (v := (1 : Int32)) hx hb ddX0_readShape_46 (by decide) ?_
        refine lv_goto (tgt := 51) hx hb ddX0_readShape_47 (by decide) ?_
        exact hJ51 _ _ _ _ _ _ _ _ _ _ hS (lv_sub hl [0, 1, 2, 3, 4, 5, 6] rfl) h
      intro x3 x4 x5 σ H locs ls hS hl h
      replace h : wpS_X0_readShape_6_8 K (wlp (wpF_X0_readShape_6_8 K) n8) x3 x4 x5 σ := h
      unfold wpS_X0_readShape_6_8 at h
      refine lv_iload hx hb ddX0_readShape_8 (lv_at hl 4 rfl) ?_
      refine lv_aload_n hx hb ddX0_readShape_10 rfl (lv_at hl 1 rfl) ?_
      refine k_RI (As := []) (rest := [.int x5]) (cS_length l X (i := 6) (by decide) (K := fun r s => r = (6 : Int32) ∧ s = σ) ⟨by decide, rfl⟩) mf_J0_length_8abf5 lk972 hx hb hml hown ht hK hZ hS hA (vk_recv hZ.1 (by decide) hS.2.2) ⟨rfl, rfl⟩ ⟨Nat.le_of_ble_eq_true rfl, Nat.le_of_ble_eq_true rfl⟩ rfl hl.1 rfl (Nat.le_of_ble_eq_true rfl) ⟨Nat.le_of_ble_eq_true rfl, Nat.le_of_ble_eq_true rfl⟩ ddX0_readShape_11 (fun r9 s9 H locs hS h9 => ?_)
      rw [h9.2] at hS
      rw [h9.1]
      refine lv_icmp_ge (tgt := 153) hx hb ddX0_readShape_14 (by decide) (fun c1 => ?_) (fun c1 => ?_)
      · replace h := h.1 c1
        refine lv_iload_n hx hb ddX0_readShape_153 rfl (lv_at hl 2 rfl) ?_
        exact k_iret hx hb hr hlocks hK hS h ddX0_readShape_154
      · replace h := h.2 c1
        refine lv_aload_n hx hb ddX0_readShape_17 rfl (lv_at hl 1 rfl) ?_
        refine lv_iload hx hb ddX0_readShape_18 (lv_at hl 4 rfl) ?_
        refine k_RI (As := [.int x5]) (rest := []) (cS_charAt l X (i := 6) (by decide) (K := fun r s => r = sch 6 x5 ∧ s = σ) ⟨h.1, rfl, rfl⟩) mf_J0_charAt_5068e lk982 hx hb hml hown ht hK hZ hS hA (vk_recv hZ.1 (by decide) hS.2.2) ⟨rfl, rfl⟩ ⟨Nat.le_of_ble_eq_true rfl, Nat.le_of_ble_eq_true rfl⟩ rfl hl.1 rfl (Nat.le_of_ble_eq_true rfl) ⟨Nat.le_of_ble_eq_true rfl, Nat.le_of_ble_eq_true rfl⟩ ddX0_readShape_20 (fun r9 s9 H locs hS h9 => ?_)
        replace h := h.2
        rw [h9.2] at hS
        rw [h9.1]
        refine lv_topi (fun v2 ev2 => ?_)
        replace h := h v2 ev2
        refine lv_istore (lv' := [(6, .int v2), (0, .ref (ga X 19)), (1, .ref (gK X 6)), (3, .int x3), (4, .int x4), (5, .int x5)]) hx hb ddX0_readShape_23 hl (by decide) rfl (fun ls hl => ?_)
        refine lv_aload_n hx hb ddX0_readShape_25 rfl (lv_at hl 1 rfl) ?_
        refine lv_iload_n hx hb ddX0_readShape_26 rfl (lv_at hl 3 rfl) ?_
        refine k_VI (As := [.int x3]) (rest := []) (c_X0_characterAt l X h) mf_X0_characterAt lk1020 hx hb hml hown ht hK hZ hS hA 19 4 rfl rfl rfl ⟨rfl, rfl⟩ ⟨Nat.le_of_ble_eq_true rfl, Nat.le_of_ble_eq_true rfl⟩ rfl hl.1 rfl (Nat.le_of_ble_eq_true rfl) ⟨Nat.le_of_ble_eq_true rfl, Nat.le_of_ble_eq_true rfl⟩ ddX0_readShape_27 (fun r4 σ3 H locs hS h => ?_)
        refine lv_istore (lv' := [(7, .int r4), (6, .int v2), (0, .ref (ga X 19)), (1, .ref (gK X 6)), (3, .int x3), (4, .int x4), (5, .int x5)]) hx hb ddX0_readShape_30 hl (by decide) rfl (fun ls hl => ?_)
        refine lv_iload hx hb ddX0_readShape_32 (lv_at hl 1 rfl) ?_
        refine lv_bipush (v := (35 : Int32)) hx hb ddX0_readShape_34 (by decide) ?_
        refine lv_icmp_eq (tgt := 46) hx hb ddX0_readShape_36 (by decide) (fun c5 => ?_) (fun c5 => ?_)
        · replace h := h.1 c5
          exact hJ46 _ _ _ _ _ _ _ _ _ hS (lv_sub hl [2, 3, 4, 5, 6, 1, 0] rfl) h
        · replace h := h.2 c5
          refine lv_iload hx hb ddX0_readShape_39 (lv_at hl 1 rfl) ?_
          refine lv_bipush (v := (37 : Int32)) hx hb ddX0_readShape_41 (by decide) ?_
          refine lv_icmp_ne (tgt := 50) hx hb ddX0_readShape_43 (by decide) (fun c26 => ?_) (fun c26 => ?_)
          · replace h := h.1 c26
            refine lv_iconst (v := (0 : Int32)) hx hb ddX0_readShape_50 (by decide) ?_
            exact hJ51 _ _ _ _ _ _ _ _ _ _ hS (lv_sub hl [2, 3, 4, 5, 6, 1, 0] rfl) h
          · replace h := h.2 c26
            exact hJ46 _ _ _ _ _ _ _ _ _ hS (lv_sub hl [2, 3, 4, 5, 6, 1, 0] rfl) h
  unfold wp_X0_readShape_6 at h
  refine lv_iload_n hx hb ddX0_readShape_0 rfl (lv_at hl 2 rfl) ?_
  refine lv_istore_n (lv' := [(3, .int x2), (0, .ref (ga X 19)), (1, .ref (gK X 6)), (2, .int x2)]) hx hb ddX0_readShape_1 rfl hl (by decide) rfl (fun ls hl => ?_)
  refine lv_iconst (v := (0 : Int32)) hx hb ddX0_readShape_2 (by decide) ?_
  refine lv_istore (lv' := [(4, .int (0 : Int32)), (3, .int x2), (0, .ref (ga X 19)), (1, .ref (gK X 6)), (2, .int x2)]) hx hb ddX0_readShape_3 hl (by decide) rfl (fun ls hl => ?_)
  refine lv_iconst (v := (0 : Int32)) hx hb ddX0_readShape_5 (by decide) ?_
  refine lv_istore (lv' := [(5, .int (0 : Int32)), (4, .int (0 : Int32)), (3, .int x2), (0, .ref (ga X 19)), (1, .ref (gK X 6)), (2, .int x2)]) hx hb ddX0_readShape_6 hl (by decide) rfl (fun ls hl => ?_)
  obtain ⟨n, h⟩ := h
  exact hL8 n _ _ _ _ _ _ _ hS (lv_sub hl [3, 4, 2, 1, 0] rfl) h

set_option maxHeartbeats 4000000 in
set_option maxRecDepth 100000 in
theorem c_X0_readShape_7 (l : Launch) (X : GX) {x2 : Int32} {σ : Mem} {K : Int32 → Mem → Prop} (h : wp_X0_readShape_7 x2 σ K) : MI l X yX0_readShape cX0_readShape 11 ((Option.some Jvm.ClassFile.FieldType.int)) ({ frames := 4, cells := 0, slots := 0, locals := 85 } : Room) [.ref (ga X 19), .ref (gK X 7), .int x2] σ K := by
  refine ent_met (QQ := fun A => va_Qi K (BW X A) A) (by decide) (Nat.le_of_ble_eq_true rfl) ?_
  intro p e s m args below meth c A ls hx hb hr hlocks hml hown ht hK hZ hA hS hl
  have hown : s.vm.findClass "GuardRoster$CommandText" = some m.cls := hown
  have hl : lv_has ls 11 [(0, .ref (ga X 19)), (1, .ref (gK X 7)), (2, .int x2)] := hl
  have hJ76 : ∀ (x3 : Int32) (σ : Mem) (H : Heap) (locs : List Loc) (ls : Array Slot), WS X A s.heap σ H locs → lv_has ls 11 [(0, .ref (ga X 19)), (3, .int x3)] → wpJ_X0_readShape_7_76 K x3 σ → WI X K p l e ({ frames := 4, cells := 0, slots := 0, locals := 85 } : Room) s m args below meth c A H locs (F0 m 76 ls []) := by
    intro x3 σ H locs ls hS hl h
    unfold wpJ_X0_readShape_7_76 at h
    refine lv_aload_n hx hb ddX0_readShape_76 rfl (lv_at hl 0 rfl) ?_
    refine lv_iload_n hx hb ddX0_readShape_77 rfl (lv_at hl 1 rfl) ?_
    refine put_19_5 hx hb hown ht hK hS lk94 ddX0_readShape_78 (fun H locs hS => ?_)
    obtain ⟨σ22, eσ22⟩ : ∃ y : Mem, y = (st σ 19 5 x3) := ⟨_, rfl⟩
    rw [← eσ22] at hS
    replace h := h σ22 eσ22
    refine lv_iconst (v := (-1 : Int32)) hx hb ddX0_readShape_81 (by decide) ?_
    exact k_iret hx hb hr hlocks hK hS h ddX0_readShape_82
  have hJ66 : ∀ (x3 : Int32) (σ : Mem) (H : Heap) (locs : List Loc) (ls : Array Slot), WS X A s.heap σ H locs → lv_has ls 11 [(0, .ref (ga X 19)), (3, .int x3)] → wpJ_X0_readShape_7_66 K x3 σ → WI X K p l e ({ frames := 4, cells := 0, slots := 0, locals := 85 } : Room) s m args below meth c A H locs (F0 m 66 ls []) := by
    intro x3 σ H locs ls hS hl h
    unfold wpJ_X0_readShape_7_66 at h
    refine lv_goto (tgt := 76) hx hb ddX0_readShape_66 (by decide) ?_
    exact hJ76 _ _ _ _ _ hS (lv_sub hl [0, 1] rfl) h
  have hL8 : ∀ (n : Nat) (x3 x4 x5 : Int32) (σ : Mem) (H : Heap) (locs : List Loc) (ls : Array Slot), WS X A s.heap σ H locs → lv_has ls 11 [(0, .ref (ga X 19)), (1, .ref (gK X 7)), (3, .int x3), (4, .int x4), (5, .int x5)] → wlp (wpF_X0_readShape_7_8 K) n (x3, x4, x5, σ) → WI X K p l e ({ frames := 4, cells := 0, slots := 0, locals := 85 } : Room) s m args below meth c A H locs (F0 m 8 ls []) := by
    intro n8
    induction n8 with
    | zero => intro x3 x4 x5 σ H locs ls hS hl h; exact h.elim
    | succ n8 ih8 =>
      have hJ147 : ∀ (x3 x4 x5 : Int32) (σ : Mem) (H : Heap) (locs : List Loc) (ls : Array Slot), WS X A s.heap σ H locs → lv_has ls 11 [(0, .ref (ga X 19)), (1, .ref (gK X 7)), (3, .int x3), (4, .int x4), (5, .int x5)] → wpJ_X0_readShape_7_147 K (wlp (wpF_X0_readShape_7_8 K) n8) x3 x4 x5 σ → WI X K p l e ({ frames := 4, cells := 0, slots := 0, locals := 85 } : Room) s m args below meth c A H locs (F0 m 147 ls []) := by
        intro x3 x4 x5 σ H locs ls hS hl h
        unfold wpJ_X0_readShape_7_147 at h
        obtain ⟨v10, ev10⟩ : ∃ y : Int32, y = x5 + (1 : Int32) := ⟨_, rfl⟩
        replace h := h v10 ev10
        refine lv_iinc (v := v10) (lv' := [(5, .int v10), (0, .ref (ga X 19)), (1, .ref (gK X 7)), (3, .int x3), (4, .int x4)]) hx hb ddX0_readShape_147 hl (k := 4) rfl (by rw [ev10]; rfl) (by decide) rfl (fun ls hl => ?_)
        refine lv_goto (tgt := 8) hx hb ddX0_readShape_150 (by decide) ?_
        exact ih8 _ _ _ _ _ _ _ hS (lv_sub hl [1, 2, 3, 4, 0] rfl) h
      have hJ136 : ∀ (x3 x4 x5 x9 : Int32) (σ : Mem) (H : Heap) (locs : List Loc) (ls : Array Slot), WS X A s.heap σ H locs → lv_has ls 11 [(0, .ref (ga X 19)), (1, .ref (gK X 7)), (3, .int x3), (4, .int x4), (5, .int x5), (9, .int x9)] → wpJ_X0_readShape_7_136 K (wlp (wpF_X0_readShape_7_8 K) n8) x3 x4 x5 x9 σ → WI X K p l e ({ frames := 4, cells := 0, slots := 0, locals := 85 } : Room) s m args below meth c A H locs (F0 m 136 ls []) := by
        intro x3 x4 x5 x9 σ H locs ls hS hl h
        unfold wpJ_X0_readShape_7_136 at h
        refine lv_aload_n hx hb ddX0_readShape_136 rfl (lv_at hl 0 rfl) ?_
        refine lv_iload hx hb ddX0_readShape_137 (lv_at hl 3 rfl) ?_
        refine lv_iload hx hb ddX0_readShape_139 (lv_at hl 5 rfl) ?_
        refine k_VV (As := [.int x4, .int x9]) (rest := []) (c_X0_keepValue l X h) mf_X0_keepValue lk1027 hx hb hml hown ht hK hZ hS hA 19 4 rfl rfl rfl ⟨rfl, rfl⟩ ⟨Nat.le_of_ble_eq_true rfl, Nat.le_of_ble_eq_true rfl⟩ rfl hl.1 rfl (Nat.le_of_ble_eq_true rfl) ⟨Nat.le_of_ble_eq_true rfl, Nat.le_of_ble_eq_true rfl⟩ ddX0_readShape_141 (fun σ15 H locs hS h => ?_)
        obtain ⟨v16, ev16⟩ : ∃ y : Int32, y = x4 + (1 : Int32) := ⟨_, rfl⟩
        replace h := h v16 ev16
        refine lv_iinc (v := v16) (lv' := [(4, .int v16), (0, .ref (ga X 19)), (1, .ref (gK X 7)), (3, .int x3), (5, .int x5), (9, .int x9)]) hx hb ddX0_readShape_144 hl (k := 3) rfl (by rw [ev16]; rfl) (by decide) rfl (fun ls hl => ?_)
        exact hJ147 _ _ _ _ _ _ _ hS (lv_sub hl [1, 2, 3, 0, 4] rfl) h
      have hJ83 : ∀ (x3 x4 x5 x6 x7 x8 : Int32) (σ : Mem) (H : Heap) (locs : List Loc) (ls : Array Slot), WS X A s.heap σ H locs → lv_has ls 11 [(0, .ref (ga X 19)), (1, .ref (gK X 7)), (3, .int x3), (4, .int x4), (5, .int x5), (6, .int x6), (7, .int x7), (8, .int x8)] → wpJ_X0_readShape_7_83 K (wlp (wpF_X0_readShape_7_8 K) n8) x3 x4 x5 x6 x7 x8 σ → WI X K p l e ({ frames := 4, cells := 0, slots := 0, locals := 85 } : Room) s m args below meth c A H locs (F0 m 83 ls []) := by
        intro x3 x4 x5 x6 x7 x8 σ H locs ls hS hl h
        unfold wpJ_X0_readShape_7_83 at h
        obtain ⟨v8, ev8⟩ : ∃ y : Int32, y = x3 + (1 : Int32) := ⟨_, rfl⟩
        replace h := h v8 ev8
        refine lv_iinc (v := v8) (lv' := [(3, .int v8), (0, .ref (ga X 19)), (1, .ref (gK X 7)), (4, .int x4), (5, .int x5), (6, .int x6), (7, .int x7), (8, .int x8)]) hx hb ddX0_readShape_83 hl (k := 2) rfl (by rw [ev8]; rfl) (by decide) rfl (fun ls hl => ?_)
        refine lv_iload hx hb ddX0_readShape_86 (lv_at hl 7 rfl) ?_
        refine lv_if_eq (tgt := 147) hx hb ddX0_readShape_88 (by decide) (fun c9 => ?_) (fun c9 => ?_)
        · replace h := h.1 c9
          exact hJ147 _ _ _ _ _ _ _ hS (lv_sub hl [1, 2, 0, 3, 4] rfl) h
        · replace h := h.2 c9
          refine lv_iload hx hb ddX0_readShape_91 (lv_at hl 6 rfl) ?_
          refine lv_bipush (v := (48 : Int32)) hx hb ddX0_readShape_93 (by decide) ?_
          refine lv_isub hx hb ddX0_readShape_95 ?_
          refine lv_topi (fun v11 ev11 => ?_)
          replace h := h v11 ev11
          refine lv_istore (lv' := [(9, .int v11), (3, .int v8), (0, .ref (ga X 19)), (1, .ref (gK X 7)), (4, .int x4), (5, .int x5), (6, .int x6), (7, .int x7), (8, .int x8)]) hx hb ddX0_readShape_96 hl (by decide) rfl (fun ls hl => ?_)
          refine lv_aload_n hx hb ddX0_readShape_98 rfl (lv_at hl 2 rfl) ?_
          refine lv_iload_n hx hb ddX0_readShape_99 rfl (lv_at hl 1 rfl) ?_
          refine k_VI (As := [.int v8]) (rest := []) (c_X0_characterAt l X h) mf_X0_characterAt lk1020 hx hb hml hown ht hK hZ hS hA 19 4 rfl rfl rfl ⟨rfl, rfl⟩ ⟨Nat.le_of_ble_eq_true rfl, Nat.le_of_ble_eq_true rfl⟩ rfl hl.1 rfl (Nat.le_of_ble_eq_true rfl) ⟨Nat.le_of_ble_eq_true rfl, Nat.le_of_ble_eq_true rfl⟩ ddX0_readShape_100 (fun r13 σ12 H locs hS h => ?_)
          refine lv_istore (lv' := [(10, .int r13), (9, .int v11), (3, .int v8), (0, .ref (ga X 19)), (1, .ref (gK X 7)), (4, .int x4), (5, .int x5), (6, .int x6), (7, .int x7), (8, .int x8)]) hx hb ddX0_readShape_103 hl (by decide) rfl (fun ls hl => ?_)
          refine lv_iload hx hb ddX0_readShape_105 (lv_at hl 7 rfl) ?_
          refine lv_bipush (v := (37 : Int32)) hx hb ddX0_readShape_107 (by decide) ?_
          refine lv_icmp_ne (tgt := 136) hx hb ddX0_readShape_109 (by decide) (fun c14 => ?_) (fun c14 => ?_)
          · replace h := h.1 c14
            exact hJ136 _ _ _ _ _ _ _ _ hS (lv_sub hl [3, 4, 2, 5, 6, 1] rfl) h
          · replace h := h.2 c14
            refine lv_iload hx hb ddX0_readShape_112 (lv_at hl 0 rfl) ?_
            refine k_SI (As := [.int r13]) (rest := []) (c_X0_isDigit l X h) mf_X0_isDigit lk1024 hx hb hml hown ht hK hZ hS hA ⟨rfl, rfl⟩ ⟨Nat.le_of_ble_eq_true rfl, Nat.le_of_ble_eq_true rfl⟩ rfl hl.1 rfl (Nat.le_of_ble_eq_true rfl) ⟨Nat.le_of_ble_eq_true rfl, Nat.le_of_ble_eq_true rfl⟩ ddX0_readShape_114 (fun r18 σ17 H locs hS h => ?_)
            refine lv_if_eq (tgt := 136) hx hb ddX0_readShape_117 (by decide) (fun c19 => ?_) (fun c19 => ?_)
            · replace h := h.1 c19
              exact hJ136 _ _ _ _ _ _ _ _ hS (lv_sub hl [3, 4, 2, 5, 6, 1] rfl) h
            · replace h := h.2 c19
              refine lv_iload hx hb ddX0_readShape_120 (lv_at hl 1 rfl) ?_
              refine lv_bipush (v := (10 : Int32)) hx hb ddX0_readShape_122 (by decide) ?_
              refine lv_imul hx hb ddX0_readShape_124 ?_
              refine lv_iload hx hb ddX0_readShape_125 (lv_at hl 0 rfl) ?_
              refine lv_iadd hx hb ddX0_readShape_127 ?_
              refine lv_bipush (v := (48 : Int32)) hx hb ddX0_readShape_128 (by decide) ?_
              refine lv_isub hx hb ddX0_readShape_130 ?_
              refine lv_topi (fun v20 ev20 => ?_)
              replace h := h v20 ev20
              refine lv_istore (lv' := [(9, .int v20), (10, .int r13), (3, .int v8), (0, .ref (ga X 19)), (1, .ref (gK X 7)), (4, .int x4), (5, .int x5), (6, .int x6), (7, .int x7), (8, .int x8)]) hx hb ddX0_readShape_131 hl (by decide) rfl (fun ls hl => ?_)
              obtain ⟨v21, ev21⟩ : ∃ y : Int32, y = v8 + (1 : Int32) := ⟨_, rfl⟩
              replace h := h v21 ev21
              refine lv_iinc (v := v21) (lv' := [(3, .int v21), (9, .int v20), (10, .int r13), (0, .ref (ga X 19)), (1, .ref (gK X 7)), (4, .int x4), (5, .int x5), (6, .int x6), (7, .int x7), (8, .int x8)]) hx hb ddX0_readShape_133 hl (k := 2) rfl (by rw [ev21]; rfl) (by decide) rfl (fun ls hl => ?_)
              exact hJ136 _ _ _ _ _ _ _ _ hS (lv_sub hl [3, 4, 0, 5, 6, 1] rfl) h
      have hJ51 : ∀ (x3 x4 x5 x6 x7 y0 : Int32) (σ : Mem) (H : Heap) (locs : List Loc) (ls : Array Slot), WS X A s.heap σ H locs → lv_has ls 11 [(0, .ref (ga X 19)), (1, .ref (gK X 7)), (3, .int x3), (4, .int x4), (5, .int x5), (6, .int x6), (7, .int x7)] → wpJ_X0_readShape_7_51 K (wlp (wpF_X0_readShape_7_8 K) n8) x3 x4 x5 x6 x7 y0 σ → WI X K p l e ({ frames := 4, cells := 0, slots := 0, locals := 85 } : Room) s m args below meth c A H locs (F0 m 51 ls [.int y0]) := by
        intro x3 x4 x5 x6 x7 y0 σ H locs ls hS hl h
        unfold wpJ_X0_readShape_7_51 at h
        refine lv_istore (lv' := [(8, .int y0), (0, .ref (ga X 19)), (1, .ref (gK X 7)), (3, .int x3), (4, .int x4), (5, .int x5), (6, .int x6), (7, .int x7)]) hx hb ddX0_readShape_51 hl (by decide) rfl (fun ls hl => ?_)
        refine lv_iload hx hb ddX0_readShape_53 (lv_at hl 0 rfl) ?_
        refine lv_if_eq (tgt := 69) hx hb ddX0_readShape_55 (by decide) (fun c6 => ?_) (fun c6 => ?_)
        · replace h := h.1 c6
          refine lv_iload hx hb ddX0_readShape_69 (lv_at hl 7 rfl) ?_
          refine lv_iload hx hb ddX0_readShape_71 (lv_at hl 6 rfl) ?_
          refine lv_icmp_eq (tgt := 83) hx hb ddX0_readShape_73 (by decide) (fun c7 => ?_) (fun c7 => ?_)
          · replace h := h.1 c7
            exact hJ83 _ _ _ _ _ _ _ _ _ _ hS (lv_sub hl [1, 2, 3, 4, 5, 6, 7, 0] rfl) h
          · replace h := h.2 c7
            exact hJ76 _ _ _ _ _ hS (lv_sub hl [1, 3] rfl) h
        · replace h := h.2 c6
          refine lv_iload hx hb ddX0_readShape_58 (lv_at hl 7 rfl) ?_
          refine k_SI (As := [.int x7]) (rest := []) (c_X0_isDigit l X h) mf_X0_isDigit lk1024 hx hb hml hown ht hK hZ hS hA ⟨rfl, rfl⟩ ⟨Nat.le_of_ble_eq_true rfl, Nat.le_of_ble_eq_true rfl⟩ rfl hl.1 rfl (Nat.le_of_ble_eq_true rfl) ⟨Nat.le_of_ble_eq_true rfl, Nat.le_of_ble_eq_true rfl⟩ ddX0_readShape_60 (fun r24 σ23 H locs hS h => ?_)
          refine lv_if_ne (tgt := 83) hx hb ddX0_readShape_63 (by decide) (fun c25 => ?_) (fun c25 => ?_)
          · replace h := h.1 c25
            exact hJ83 _ _ _ _ _ _ _ _ _ _ hS (lv_sub hl [1, 2, 3, 4, 5, 6, 7, 0] rfl) h
          · replace h := h.2 c25
            exact hJ66 _ _ _ _ _ hS (lv_sub hl [1, 3] rfl) h
      have hJ46 : ∀ (x3 x4 x5 x6 x7 : Int32) (σ : Mem) (H : Heap) (locs : List Loc) (ls : Array Slot), WS X A s.heap σ H locs → lv_has ls 11 [(0, .ref (ga X 19)), (1, .ref (gK X 7)), (3, .int x3), (4, .int x4), (5, .int x5), (6, .int x6), (7, .int x7)] → wpJ_X0_readShape_7_46 K (wlp (wpF_X0_readShape_7_8 K) n8) x3 x4 x5 x6 x7 σ → WI X K p l e ({ frames := 4, cells := 0, slots := 0, locals := 85 } : Room) s m args below meth c A H locs (F0 m 46 ls []) := by
        intro x3 x4 x5 x6 x7 σ H locs ls hS hl h
        unfold wpJ_X0_readShape_7_46 at h
        refine lv_iconst (v := (1 : Int32)) hx hb ddX0_readShape_46 (by decide) ?_
        refine lv_goto (tgt := 51) hx hb ddX0_readShape_47 (by decide) ?_
        exact hJ51 _ _ _ _ _ _ _ _ _ _ hS (lv_sub hl [0, 1, 2, 3, 4, 5, 6] rfl) h
      intro x3 x4 x5 σ H locs ls hS hl h
      replace h : wpS_X0_readShape_7_8 K (wlp (wpF_X0_readShape_7_8 K) n8) x3 x4 x5 σ := h
      unfold wpS_X0_readShape_7_8 at h
      refine lv_iload hx hb ddX0_readShape_8 (lv_at hl 4 rfl) ?_
      refine lv_aload_n hx hb ddX0_readShape_10 rfl (lv_at hl 1 rfl) ?_
      refine k_RI (As := []) (rest := [.int x5]) (cS_length l X (i := 7) (by decide) (K := fun r s => r = (6 : Int32) ∧ s = σ) ⟨by decide, rfl⟩) mf_J0_length_8abf5 lk972 hx hb hml hown ht hK hZ hS hA (vk_recv hZ.1 (by decide) hS.2.2) ⟨rfl, rfl⟩ ⟨Nat.le_of_ble_eq_true rfl, Nat.le_of_ble_eq_true rfl⟩ rfl hl.1 rfl (Nat.le_of_ble_eq_true rfl) ⟨Nat.le_of_ble_eq_true rfl, Nat.le_of_ble_eq_true rfl⟩ ddX0_readShape_11 (fun r9 s9 H locs hS h9 => ?_)
      rw [h9.2] at hS
      rw [h9.1]
      refine lv_icmp_ge (tgt := 153) hx hb ddX0_readShape_14 (by decide) (fun c1 => ?_) (fun c1 => ?_)
      · replace h := h.1 c1
        refine lv_iload_n hx hb ddX0_readShape_153 rfl (lv_at hl 2 rfl) ?_
        exact k_iret hx hb hr hlocks hK hS h ddX0_readShape_154
      · replace h := h.2 c1
        refine lv_aload_n hx hb ddX0_readShape_17 rfl (lv_at hl 1 rfl) ?_
        refine lv_iload hx hb ddX0_readShape_18 (lv_at hl 4 rfl) ?_
        refine k_RI (As := [.int x5]) (rest := []) (cS_charAt l X (i := 7) (by decide) (K := fun r s => r = sch 7 x5 ∧ s = σ) ⟨h.1, rfl, rfl⟩) mf_J0_charAt_5068e lk982 hx hb hml hown ht hK hZ hS hA (vk_recv hZ.1 (by decide) hS.2.2) ⟨rfl, rfl⟩ ⟨Nat.le_of_ble_eq_true rfl, Nat.le_of_ble_eq_true rfl⟩ rfl hl.1 rfl (Nat.le_of_ble_eq_true rfl) ⟨Nat.le_of_ble_eq_true rfl, Nat.le_of_ble_eq_true rfl⟩ ddX0_readShape_20 (fun r9 s9 H locs hS h9 => ?_)
        replace h := h.2
        rw [h9.2] at hS
        rw [h9.1]
        refine lv_topi (fun v2 ev2 => ?_)
        replace h := h v2 ev2
        refine lv_istore (lv' := [(6, .int v2), (0, .ref (ga X 19)), (1, .ref (gK X 7)), (3, .int x3), (4, .int x4), (5, .int x5)]) hx hb ddX0_readShape_23 hl (by decide) rfl (fun ls hl => ?_)
        refine lv_aload_n hx hb ddX0_readShape_25 rfl (lv_at hl 1 rfl) ?_
        refine lv_iload_n hx hb ddX0_readShape_26 rfl (lv_at hl 3 rfl) ?_
        refine k_VI (As := [.int x3]) (rest := []) (c_X0_characterAt l X h) mf_X0_characterAt lk1020 hx hb hml hown ht hK hZ hS hA 19 4 rfl rfl rfl ⟨rfl, rfl⟩ ⟨Nat.le_of_ble_eq_true rfl, Nat.le_of_ble_eq_true rfl⟩ rfl hl.1 rfl (Nat.le_of_ble_eq_true rfl) ⟨Nat.le_of_ble_eq_true rfl, Nat.le_of_ble_eq_true rfl⟩ ddX0_readShape_27 (fun r4 σ3 H locs hS h => ?_)
        refine lv_istore (lv' := [(7, .int r4), (6, .int v2), (0, .ref (ga X 19)), (1, .ref (gK X 7)), (3, .int x3), (4, .int x4), (5, .int x5)]) hx hb ddX0_readShape_30 hl (by decide) rfl (fun ls hl => ?_)
        refine lv_iload hx hb ddX0_readShape_32 (lv_at hl 1 rfl) ?_
        refine lv_bipush (v := (35 : Int32)) hx hb ddX0_readShape_34 (by decide) ?_
        refine lv_icmp_eq (tgt := 46) hx hb ddX0_readShape_36 (by decide) (fun c5 => ?_) (fun c5 => ?_)
        · replace h := h.1 c5
          exact hJ46 _ _ _ _ _ _ _ _ _ hS (lv_sub hl [2, 3, 4, 5, 6, 1, 0] rfl) h
        · replace h := h.2 c5
          refine lv_iload hx hb ddX0_readShape_39 (lv_at hl 1 rfl) ?_
          refine lv_bipush (v := (37 : Int32)) hx hb ddX0_readShape_41 (by decide) ?_
          refine lv_icmp_ne (tgt := 50) hx hb ddX0_readShape_43 (by decide) (fun c26 => ?_) (fun c26 => ?_)
          · replace h := h.1 c26
            refine lv_iconst (v := (0 : Int32)) hx hb ddX0_readShape_50 (by decide) ?_
            exact hJ51 _ _ _ _ _ _ _ _ _ _ hS (lv_sub hl [2, 3, 4, 5, 6, 1, 0] rfl) h
          · replace h := h.2 c26
            exact hJ46 _ _ _ _ _ _ _ _ _ hS (lv_sub hl [2, 3, 4, 5, 6, 1, 0] rfl) h
  unfold wp_X0_readShape_7 at h
  refine lv_iload_n hx hb ddX0_readShape_0 rfl (lv_at hl 2 rfl) ?_
  refine lv_istore_n (lv' := [(3, .int x2), (0, .ref (ga X 19)), (1, .ref (gK X 7)), (2, .int x2)]) hx hb ddX0_readShape_1 rfl hl (by decide) rfl (fun ls hl => ?_)
  refine lv_iconst (v := (0 : Int32)) hx hb ddX0_readShape_2 (by decide) ?_
  refine lv_istore (lv' := [(4, .int (0 : Int32)), (3, .int x2), (0, .ref (ga X 19)), (1, .ref (gK X 7)), (2, .int x2)]) hx hb ddX0_readShape_3 hl (by decide) rfl (fun ls hl => ?_)
  refine lv_iconst (v := (0 : Int32)) hx hb ddX0_readShape_5 (by decide) ?_
  refine lv_istore (lv' := [(5, .int (0 : Int32)), (4, .int (0 : Int32)), (3, .int x2), (0, .ref (ga X 19)), (1, .ref (gK X 7)), (2, .int x2)]) hx hb ddX0_readShape_6 hl (by decide) rfl (fun ls hl => ?_)
  obtain ⟨n, h⟩ := h
  exact hL8 n _ _ _ _ _ _ _ hS (lv_sub hl [3, 4, 2, 1, 0] rfl) h

set_option maxHeartbeats 4000000 in
set_option maxRecDepth 100000 in
theorem c_X0_readCommand (l : Launch) (X : GX) {x1 : Int32} {σ : Mem} {K : Int32 → Mem → Prop} (h : wp_X0_readCommand x1 σ K) : MI l X yX0_readCommand cX0_readCommand 5 ((Option.some Jvm.ClassFile.FieldType.int)) ({ frames := 5, cells := 0, slots := 0, locals := 115 } : Room) [.ref (ga X 19), .int x1] σ K := by
  refine ent_met (QQ := fun A => va_Qi K (BW X A) A) (by decide) (Nat.le_of_ble_eq_true rfl) ?_
  intro p e s m args below meth c A ls hx hb hr hlocks hml hown ht hK hZ hA hS hl
  have hown : s.vm.findClass "GuardRoster$CommandText" = some m.cls := hown
  have hl : lv_has ls 5 [(0, .ref (ga X 19)), (1, .int x1)] := hl
  have hJ71 : ∀ (x2 : Int32) (σ : Mem) (H : Heap) (locs : List Loc) (ls : Array Slot), WS X A s.heap σ H locs → lv_has ls 5 [(0, .ref (ga X 19)), (2, .int x2)] → wpJ_X0_readCommand_71 K x2 σ → WI X K p l e ({ frames := 5, cells := 0, slots := 0, locals := 115 } : Room) s m args below meth c A H locs (F0 m 71 ls []) := by
    intro x2 σ H locs ls hS hl h
    unfold wpJ_X0_readCommand_71 at h
    refine lv_aload_n hx hb ddX0_readCommand_71 rfl (lv_at hl 0 rfl) ?_
    refine lv_iload_n hx hb ddX0_readCommand_72 rfl (lv_at hl 1 rfl) ?_
    refine put_19_5 hx hb hown ht hK hS lk94 ddX0_readCommand_73 (fun H locs hS => ?_)
    obtain ⟨σ2, eσ2⟩ : ∃ y : Mem, y = (st σ 19 5 x2) := ⟨_, rfl⟩
    rw [← eσ2] at hS
    replace h := h σ2 eσ2
    refine lv_iconst (v := (-1 : Int32)) hx hb ddX0_readCommand_76 (by decide) ?_
    exact k_iret hx hb hr hlocks hK hS h ddX0_readCommand_77
  have hJ27 : ∀ (x3 x4 : Int32) (σ : Mem) (H : Heap) (locs : List Loc) (ls : Array Slot), WS X A s.heap σ H locs → lv_has ls 5 [(0, .ref (ga X 19)), (3, .int x3), (4, .int x4)] → wpJ_X0_readCommand_27 K x3 x4 σ → WI X K p l e ({ frames := 5, cells := 0, slots := 0, locals := 115 } : Room) s m args below meth c A H locs (F0 m 27 ls []) := by
    intro x3 x4 σ H locs ls hS hl h
    unfold wpJ_X0_readCommand_27 at h
    refine lv_aload_n hx hb ddX0_readCommand_27 rfl (lv_at hl 0 rfl) ?_
    refine get_19_4 hx hb hown ht hK hS lk93 ddX0_readCommand_28 ?_
    refine lv_if_lt (tgt := 53) hx hb ddX0_readCommand_31 (by decide) (fun c10 => ?_) (fun c10 => ?_)
    · replace h := h.1 c10
      refine lv_iload hx hb ddX0_readCommand_53 (lv_at hl 2 rfl) ?_
      exact k_iret hx hb hr hlocks hK hS h ddX0_readCommand_55
    · replace h := h.2 c10
      refine lv_aload_n hx hb ddX0_readCommand_34 rfl (lv_at hl 0 rfl) ?_
      refine get_19_4 hx hb hown ht hK hS lk93 ddX0_readCommand_35 ?_
      refine lv_bipush (v := (9 : Int32)) hx hb ddX0_readCommand_38 (by decide) ?_
      refine lv_icmp_ge (tgt := 53) hx hb ddX0_readCommand_40 (by decide) (fun c11 => ?_) (fun c11 => ?_)
      · replace h := h.1 c11
        refine lv_iload hx hb ddX0_readCommand_53 (lv_at hl 2 rfl) ?_
        exact k_iret hx hb hr hlocks hK hS h ddX0_readCommand_55
      · replace h := h.2 c11
        refine lv_aload_n hx hb ddX0_readCommand_43 rfl (lv_at hl 0 rfl) ?_
        refine get_19_2 hx hb hown ht hK hS lk91 ddX0_readCommand_44 ?_
        refine lv_aload_n hx hb ddX0_readCommand_47 rfl (lv_at hl 0 rfl) ?_
        refine get_19_4 hx hb hown ht hK hS lk93 ddX0_readCommand_48 ?_
        refine lv_iload_n hx hb ddX0_readCommand_51 rfl (lv_at hl 1 rfl) ?_
        refine ast_21 hx hb hK hS h.1 ddX0_readCommand_52 (fun H locs hS => ?_)
        replace h := h.2
        obtain ⟨σ12, eσ12⟩ : ∃ y : Mem, y = (st σ 21 (σ 19 4).toNatClampNeg x3) := ⟨_, rfl⟩
        rw [← eσ12] at hS
        replace h := h σ12 eσ12
        refine lv_iload hx hb ddX0_readCommand_53 (lv_at hl 2 rfl) ?_
        exact k_iret hx hb hr hlocks hK hS h ddX0_readCommand_55
  have hL4 : ∀ (n : Nat) (x1 x2 x3 : Int32) (σ : Mem) (H : Heap) (locs : List Loc) (ls : Array Slot), WS X A s.heap σ H locs → lv_has ls 5 [(0, .ref (ga X 19)), (1, .int x1), (2, .int x2), (3, .int x3)] → wlp (wpF_X0_readCommand_4 K) n (x1, x2, x3, σ) → WI X K p l e ({ frames := 5, cells := 0, slots := 0, locals := 115 } : Room) s m args below meth c A H locs (F0 m 4 ls []) := by
    intro n4
    induction n4 with
    | zero => intro x1 x2 x3 σ H locs ls hS hl h; exact h.elim
    | succ n4 ih4 =>
      have hJ19 : ∀ (x1 x2 x3 y0 : Int32) (σ : Mem) (H : Heap) (locs : List Loc) (ls : Array Slot), WS X A s.heap σ H locs → lv_has ls 5 [(0, .ref (ga X 19)), (1, .int x1), (2, .int x2), (3, .int x3)] → wpJ_X0_readCommand_19 K (wlp (wpF_X0_readCommand_4 K) n4) x1 x2 x3 y0 σ → WI X K p l e ({ frames := 5, cells := 0, slots := 0, locals := 115 } : Room) s m args below meth c A H locs (F0 m 19 ls [.int y0]) := by
        intro x1 x2 x3 y0 σ H locs ls hS hl h
        unfold wpJ_X0_readCommand_19 at h
        refine lv_istore (lv' := [(4, .int y0), (0, .ref (ga X 19)), (1, .int x1), (2, .int x2), (3, .int x3)]) hx hb ddX0_readCommand_19 hl (by decide) rfl (fun ls hl => ?_)
        refine lv_iload hx hb ddX0_readCommand_21 (lv_at hl 0 rfl) ?_
        refine lv_iconst (v := (-1 : Int32)) hx hb ddX0_readCommand_23 (by decide) ?_
        refine lv_icmp_eq (tgt := 56) hx hb ddX0_readCommand_24 (by decide) (fun c7 => ?_) (fun c7 => ?_)
        · replace h := h.1 c7
          refine lv_iload_n hx hb ddX0_readCommand_56 rfl (lv_at hl 3 rfl) ?_
          refine lv_aload_n hx hb ddX0_readCommand_57 rfl (lv_at hl 1 rfl) ?_
          refine get_19_5 hx hb hown ht hK hS lk94 ddX0_readCommand_58 ?_
          refine k_max hx hb (hml.trans hl.1.symm) hown ht lk1031 (Nat.le_of_ble_eq_true rfl) (Nat.le_of_ble_eq_true rfl) ddX0_readCommand_61 ?_
          refine lv_topi (fun v8 ev8 => ?_)
          replace h := h v8 ev8
          refine lv_istore_n (lv' := [(2, .int v8), (4, .int y0), (0, .ref (ga X 19)), (1, .int x1), (3, .int x3)]) hx hb ddX0_readCommand_64 rfl hl (by decide) rfl (fun ls hl => ?_)
          obtain ⟨v9, ev9⟩ : ∃ y : Int32, y = x3 + (1 : Int32) := ⟨_, rfl⟩
          replace h := h v9 ev9
          refine lv_iinc (v := v9) (lv' := [(3, .int v9), (2, .int v8), (4, .int y0), (0, .ref (ga X 19)), (1, .int x1)]) hx hb ddX0_readCommand_65 hl (k := 4) rfl (by rw [ev9]; rfl) (by decide) rfl (fun ls hl => ?_)
          refine lv_goto (tgt := 4) hx hb ddX0_readCommand_68 (by decide) ?_
          exact ih4 _ _ _ _ _ _ _ hS (lv_sub hl [3, 4, 1, 0] rfl) h
        · replace h := h.2 c7
          exact hJ27 _ _ _ _ _ _ hS (lv_sub hl [1, 4, 0] rfl) h
      intro x1 x2 x3 σ H locs ls hS hl h
      replace h : wpS_X0_readCommand_4 K (wlp (wpF_X0_readCommand_4 K) n4) x1 x2 x3 σ := h
      unfold wpS_X0_readCommand_4 at h
      refine lv_iload_n hx hb ddX0_readCommand_4 rfl (lv_at hl 3 rfl) ?_
      refine lv_bipush (v := (8 : Int32)) hx hb ddX0_readCommand_5 (by decide) ?_
      refine lv_icmp_ge (tgt := 71) hx hb ddX0_readCommand_7 (by decide) (fun c1 => ?_) (fun c1 => ?_)
      · replace h := h.1 c1
        exact hJ71 _ _ _ _ _ hS (lv_sub hl [0, 2] rfl) h
      · replace h := h.2 c1
        refine lv_aload_n hx hb ddX0_readCommand_10 rfl (lv_at hl 0 rfl) ?_
        refine lv_iload_n hx hb ddX0_readCommand_11 rfl (lv_at hl 3 rfl) ?_
        refine k_SR (As := [.int x3]) (rest := [.ref (ga X 19)]) (c_X0_shapeOf l X h) mf_X0_shapeOf lk957 hx hb hml hown ht hK hZ hS hA ⟨rfl, rfl⟩ ⟨Nat.le_of_ble_eq_true rfl, Nat.le_of_ble_eq_true rfl⟩ rfl hl.1 rfl (Nat.le_of_ble_eq_true rfl) ⟨Nat.le_of_ble_eq_true rfl, Nat.le_of_ble_eq_true rfl⟩ ddX0_readCommand_12 (fun r4 σ3 H locs hS h => ?_)
        refine lv_iload_n hx hb ddX0_readCommand_15 rfl (lv_at hl 1 rfl) ?_
        have h8 := h.1
        rcases (show r4 = 0 ∨ r4 = 1 ∨ r4 = 2 ∨ r4 = 3 ∨ r4 = 4 ∨ r4 = 5 ∨ r4 = 6 ∨ r4 = 7 by omega) with rfl | rfl | rfl | rfl | rfl | rfl | rfl | rfl
        · replace h := h.2.1 rfl
          refine k_VI (As := [.ref (gK X 0), .int x1]) (rest := []) (c_X0_readShape_0 l X h) mf_X0_readShape lk968 hx hb hml hown ht hK hZ hS hA 19 4 rfl rfl rfl ⟨rfl, rfl⟩ ⟨Nat.le_of_ble_eq_true rfl, Nat.le_of_ble_eq_true rfl⟩ rfl hl.1 rfl (Nat.le_of_ble_eq_true rfl) ⟨Nat.le_of_ble_eq_true rfl, Nat.le_of_ble_eq_true rfl⟩ ddX0_readCommand_16 (fun r6 σ5 H locs hS h => ?_)
          exact hJ19 _ _ _ _ _ _ _ _ hS (lv_sub hl [0, 1, 2, 3] rfl) h
        · replace h := h.2.2.1 rfl
          refine k_VI (As := [.ref (gK X 1), .int x1]) (rest := []) (c_X0_readShape_1 l X h) mf_X0_readShape lk968 hx hb hml hown ht hK hZ hS hA 19 4 rfl rfl rfl ⟨rfl, rfl⟩ ⟨Nat.le_of_ble_eq_true rfl, Nat.le_of_ble_eq_true rfl⟩ rfl hl.1 rfl (Nat.le_of_ble_eq_true rfl) ⟨Nat.le_of_ble_eq_true rfl, Nat.le_of_ble_eq_true rfl⟩ ddX0_readCommand_16 (fun r14 σ13 H locs hS h => ?_)
          exact hJ19 _ _ _ _ _ _ _ _ hS (lv_sub hl [0, 1, 2, 3] rfl) h
        · replace h := h.2.2.2.1 rfl
          refine k_VI (As := [.ref (gK X 2), .int x1]) (rest := []) (c_X0_readShape_2 l X h) mf_X0_readShape lk968 hx hb hml hown ht hK hZ hS hA 19 4 rfl rfl rfl ⟨rfl, rfl⟩ ⟨Nat.le_of_ble_eq_true rfl, Nat.le_of_ble_eq_true rfl⟩ rfl hl.1 rfl (Nat.le_of_ble_eq_true rfl) ⟨Nat.le_of_ble_eq_true rfl, Nat.le_of_ble_eq_true rfl⟩ ddX0_readCommand_16 (fun r16 σ15 H locs hS h => ?_)
          exact hJ19 _ _ _ _ _ _ _ _ hS (lv_sub hl [0, 1, 2, 3] rfl) h
        · replace h := h.2.2.2.2.1 rfl
          refine k_VI (As := [.ref (gK X 3), .int x1]) (rest := []) (c_X0_readShape_3 l X h) mf_X0_readShape lk968 hx hb hml hown ht hK hZ hS hA 19 4 rfl rfl rfl ⟨rfl, rfl⟩ ⟨Nat.le_of_ble_eq_true rfl, Nat.le_of_ble_eq_true rfl⟩ rfl hl.1 rfl (Nat.le_of_ble_eq_true rfl) ⟨Nat.le_of_ble_eq_true rfl, Nat.le_of_ble_eq_true rfl⟩ ddX0_readCommand_16 (fun r18 σ17 H locs hS h => ?_)
          exact hJ19 _ _ _ _ _ _ _ _ hS (lv_sub hl [0, 1, 2, 3] rfl) h
        · replace h := h.2.2.2.2.2.1 rfl
          refine k_VI (As := [.ref (gK X 4), .int x1]) (rest := []) (c_X0_readShape_4 l X h) mf_X0_readShape lk968 hx hb hml hown ht hK hZ hS hA 19 4 rfl rfl rfl ⟨rfl, rfl⟩ ⟨Nat.le_of_ble_eq_true rfl, Nat.le_of_ble_eq_true rfl⟩ rfl hl.1 rfl (Nat.le_of_ble_eq_true rfl) ⟨Nat.le_of_ble_eq_true rfl, Nat.le_of_ble_eq_true rfl⟩ ddX0_readCommand_16 (fun r20 σ19 H locs hS h => ?_)
          exact hJ19 _ _ _ _ _ _ _ _ hS (lv_sub hl [0, 1, 2, 3] rfl) h
        · replace h := h.2.2.2.2.2.2.1 rfl
          refine k_VI (As := [.ref (gK X 5), .int x1]) (rest := []) (c_X0_readShape_5 l X h) mf_X0_readShape lk968 hx hb hml hown ht hK hZ hS hA 19 4 rfl rfl rfl ⟨rfl, rfl⟩ ⟨Nat.le_of_ble_eq_true rfl, Nat.le_of_ble_eq_true rfl⟩ rfl hl.1 rfl (Nat.le_of_ble_eq_true rfl) ⟨Nat.le_of_ble_eq_true rfl, Nat.le_of_ble_eq_true rfl⟩ ddX0_readCommand_16 (fun r22 σ21 H locs hS h => ?_)
          exact hJ19 _ _ _ _ _ _ _ _ hS (lv_sub hl [0, 1, 2, 3] rfl) h
        · replace h := h.2.2.2.2.2.2.2.1 rfl
          refine k_VI (As := [.ref (gK X 6), .int x1]) (rest := []) (c_X0_readShape_6 l X h) mf_X0_readShape lk968 hx hb hml hown ht hK hZ hS hA 19 4 rfl rfl rfl ⟨rfl, rfl⟩ ⟨Nat.le_of_ble_eq_true rfl, Nat.le_of_ble_eq_true rfl⟩ rfl hl.1 rfl (Nat.le_of_ble_eq_true rfl) ⟨Nat.le_of_ble_eq_true rfl, Nat.le_of_ble_eq_true rfl⟩ ddX0_readCommand_16 (fun r24 σ23 H locs hS h => ?_)
          exact hJ19 _ _ _ _ _ _ _ _ hS (lv_sub hl [0, 1, 2, 3] rfl) h
        · replace h := h.2.2.2.2.2.2.2.2 rfl
          refine k_VI (As := [.ref (gK X 7), .int x1]) (rest := []) (c_X0_readShape_7 l X h) mf_X0_readShape lk968 hx hb hml hown ht hK hZ hS hA 19 4 rfl rfl rfl ⟨rfl, rfl⟩ ⟨Nat.le_of_ble_eq_true rfl, Nat.le_of_ble_eq_true rfl⟩ rfl hl.1 rfl (Nat.le_of_ble_eq_true rfl) ⟨Nat.le_of_ble_eq_true rfl, Nat.le_of_ble_eq_true rfl⟩ ddX0_readCommand_16 (fun r26 σ25 H locs hS h => ?_)
          exact hJ19 _ _ _ _ _ _ _ _ hS (lv_sub hl [0, 1, 2, 3] rfl) h
  unfold wp_X0_readCommand at h
  refine lv_iload_n hx hb ddX0_readCommand_0 rfl (lv_at hl 1 rfl) ?_
  refine lv_istore_n (lv' := [(2, .int x1), (0, .ref (ga X 19)), (1, .int x1)]) hx hb ddX0_readCommand_1 rfl hl (by decide) rfl (fun ls hl => ?_)
  refine lv_iconst (v := (0 : Int32)) hx hb ddX0_readCommand_2 (by decide) ?_
  refine lv_istore_n (lv' := [(3, .int (0 : Int32)), (2, .int x1), (0, .ref (ga X 19)), (1, .int x1)]) hx hb ddX0_readCommand_3 rfl hl (by decide) rfl (fun ls hl => ?_)
  obtain ⟨n, h⟩ := h
  exact hL4 n _ _ _ _ _ _ _ hS (lv_sub hl [2, 3, 1, 0] rfl) h

set_option maxHeartbeats 4000000 in
set_option maxRecDepth 100000 in
theorem c_X0_parse (l : Launch) (X : GX) {σ : Mem} {K : Int32 → Mem → Prop} (h : wp_X0_parse σ K) : MI l X yX0_parse cX0_parse 4 ((Option.some Jvm.ClassFile.FieldType.boolean)) ({ frames := 6, cells := 0, slots := 0, locals := 139 } : Room) [.ref (ga X 19)] σ K := by
  refine ent_met (QQ := fun A => va_Qi K (BW X A) A) (by decide) (Nat.le_of_ble_eq_true rfl) ?_
  intro p e s m args below meth c A ls hx hb hr hlocks hml hown ht hK hZ hA hS hl
  have hown : s.vm.findClass "GuardRoster$CommandText" = some m.cls := hown
  have hl : lv_has ls 4 [(0, .ref (ga X 19))] := hl
  have hJ72 : ∀ (x1 : Int32) (σ : Mem) (H : Heap) (locs : List Loc) (ls : Array Slot), WS X A s.heap σ H locs → lv_has ls 4 [(0, .ref (ga X 19)), (1, .int x1)] → wpJ_X0_parse_72 K x1 σ → WI X K p l e ({ frames := 6, cells := 0, slots := 0, locals := 139 } : Room) s m args below meth c A H locs (F0 m 72 ls []) := by
    intro x1 σ H locs ls hS hl h
    unfold wpJ_X0_parse_72 at h
    refine lv_aload_n hx hb ddX0_parse_72 rfl (lv_at hl 0 rfl) ?_
    refine lv_iload_n hx hb ddX0_parse_73 rfl (lv_at hl 1 rfl) ?_
    refine put_19_5 hx hb hown ht hK hS lk94 ddX0_parse_74 (fun H locs hS => ?_)
    obtain ⟨σ3, eσ3⟩ : ∃ y : Mem, y = (st σ 19 5 x1) := ⟨_, rfl⟩
    rw [← eσ3] at hS
    replace h := h σ3 eσ3
    refine lv_iconst (v := (0 : Int32)) hx hb ddX0_parse_77 (by decide) ?_
    exact k_zret hx hb hr hlocks hK hS rfl h ddX0_parse_78
  have hJ58 : ∀ (x2 : Int32) (σ : Mem) (H : Heap) (locs : List Loc) (ls : Array Slot), WS X A s.heap σ H locs → lv_has ls 4 [(0, .ref (ga X 19)), (2, .int x2)] → wpJ_X0_parse_58 K x2 σ → WI X K p l e ({ frames := 6, cells := 0, slots := 0, locals := 139 } : Room) s m args below meth c A H locs (F0 m 58 ls []) := by
    intro x2 σ H locs ls hS hl h
    unfold wpJ_X0_parse_58 at h
    refine lv_aload_n hx hb ddX0_parse_58 rfl (lv_at hl 0 rfl) ?_
    refine lv_iload_n hx hb ddX0_parse_59 rfl (lv_at hl 1 rfl) ?_
    refine put_19_5 hx hb hown ht hK hS lk94 ddX0_parse_60 (fun H locs hS => ?_)
    obtain ⟨σ13, eσ13⟩ : ∃ y : Mem, y = (st σ 19 5 x2) := ⟨_, rfl⟩
    rw [← eσ13] at hS
    replace h := h σ13 eσ13
    refine lv_iconst (v := (0 : Int32)) hx hb ddX0_parse_63 (by decide) ?_
    exact k_zret hx hb hr hlocks hK hS rfl h ddX0_parse_64
  have hL7 : ∀ (n : Nat) (x1 : Int32) (σ : Mem) (H : Heap) (locs : List Loc) (ls : Array Slot), WS X A s.heap σ H locs → lv_has ls 4 [(0, .ref (ga X 19)), (1, .int x1)] → wlp (wpF_X0_parse_7 K) n (x1, σ) → WI X K p l e ({ frames := 6, cells := 0, slots := 0, locals := 139 } : Room) s m args below meth c A H locs (F0 m 7 ls []) := by
    intro n7
    induction n7 with
    | zero => intro x1 σ H locs ls hS hl h; exact h.elim
    | succ n7 ih7 =>
      intro x1 σ H locs ls hS hl h
      replace h : wpS_X0_parse_7 K (wlp (wpF_X0_parse_7 K) n7) x1 σ := h
      unfold wpS_X0_parse_7 at h
      refine lv_aload_n hx hb ddX0_parse_7 rfl (lv_at hl 0 rfl) ?_
      refine get_19_4 hx hb hown ht hK hS lk93 ddX0_parse_8 ?_
      refine lv_bipush (v := (9 : Int32)) hx hb ddX0_parse_11 (by decide) ?_
      refine lv_icmp_ge (tgt := 72) hx hb ddX0_parse_13 (by decide) (fun c2 => ?_) (fun c2 => ?_)
      · replace h := h.1 c2
        exact hJ72 _ _ _ _ _ hS (lv_sub hl [0, 1] rfl) h
      · replace h := h.2 c2
        refine lv_aload_n hx hb ddX0_parse_16 rfl (lv_at hl 0 rfl) ?_
        refine lv_iload_n hx hb ddX0_parse_17 rfl (lv_at hl 1 rfl) ?_
        refine k_VI (As := [.int x1]) (rest := []) (c_X0_readCommand l X h) mf_X0_readCommand lk953 hx hb hml hown ht hK hZ hS hA 19 4 rfl rfl rfl ⟨rfl, rfl⟩ ⟨Nat.le_of_ble_eq_true rfl, Nat.le_of_ble_eq_true rfl⟩ rfl hl.1 rfl (Nat.le_of_ble_eq_true rfl) ⟨Nat.le_of_ble_eq_true rfl, Nat.le_of_ble_eq_true rfl⟩ ddX0_parse_18 (fun r5 σ4 H locs hS h => ?_)
        refine lv_istore_n (lv' := [(2, .int r5), (0, .ref (ga X 19)), (1, .int x1)]) hx hb ddX0_parse_21 rfl hl (by decide) rfl (fun ls hl => ?_)
        refine lv_iload_n hx hb ddX0_parse_22 rfl (lv_at hl 0 rfl) ?_
        refine lv_iconst (v := (-1 : Int32)) hx hb ddX0_parse_23 (by decide) ?_
        refine lv_icmp_ne (tgt := 29) hx hb ddX0_parse_24 (by decide) (fun c6 => ?_) (fun c6 => ?_)
        · replace h := h.1 c6
          refine lv_aload_n hx hb ddX0_parse_29 rfl (lv_at hl 1 rfl) ?_
          refine lv_dup hx hb ddX0_parse_30 rfl ?_
          refine get_19_4 hx hb hown ht hK hS lk93 ddX0_parse_31 ?_
          refine lv_iconst (v := (1 : Int32)) hx hb ddX0_parse_34 (by decide) ?_
          refine lv_iadd hx hb ddX0_parse_35 ?_
          refine put_19_4 hx hb hown ht hK hS lk93 ddX0_parse_36 (fun H locs hS => ?_)
          obtain ⟨σ7, eσ7⟩ : ∃ y : Mem, y = (st σ4 19 4 ((σ4 19 4) + (1 : Int32))) := ⟨_, rfl⟩
          rw [← eσ7] at hS
          replace h := h σ7 eσ7
          refine lv_aload_n hx hb ddX0_parse_39 rfl (lv_at hl 1 rfl) ?_
          refine lv_iload_n hx hb ddX0_parse_40 rfl (lv_at hl 0 rfl) ?_
          refine k_VI (As := [.int r5]) (rest := []) (c_X0_characterAt l X h) mf_X0_characterAt lk1020 hx hb hml hown ht hK hZ hS hA 19 4 rfl rfl rfl ⟨rfl, rfl⟩ ⟨Nat.le_of_ble_eq_true rfl, Nat.le_of_ble_eq_true rfl⟩ rfl hl.1 rfl (Nat.le_of_ble_eq_true rfl) ⟨Nat.le_of_ble_eq_true rfl, Nat.le_of_ble_eq_true rfl⟩ ddX0_parse_41 (fun r9 σ8 H locs hS h => ?_)
          refine lv_istore_n (lv' := [(3, .int r9), (2, .int r5), (0, .ref (ga X 19)), (1, .int x1)]) hx hb ddX0_parse_44 rfl hl (by decide) rfl (fun ls hl => ?_)
          refine lv_iload_n hx hb ddX0_parse_45 rfl (lv_at hl 0 rfl) ?_
          refine lv_iconst (v := (-1 : Int32)) hx hb ddX0_parse_46 (by decide) ?_
          refine lv_icmp_ne (tgt := 52) hx hb ddX0_parse_47 (by decide) (fun c10 => ?_) (fun c10 => ?_)
          · replace h := h.1 c10
            refine lv_iload_n hx hb ddX0_parse_52 rfl (lv_at hl 0 rfl) ?_
            refine lv_bipush (v := (59 : Int32)) hx hb ddX0_parse_53 (by decide) ?_
            refine lv_icmp_eq (tgt := 65) hx hb ddX0_parse_55 (by decide) (fun c11 => ?_) (fun c11 => ?_)
            · replace h := h.1 c11
              refine lv_iload_n hx hb ddX0_parse_65 rfl (lv_at hl 1 rfl) ?_
              refine lv_iconst (v := (1 : Int32)) hx hb ddX0_parse_66 (by decide) ?_
              refine lv_iadd hx hb ddX0_parse_67 ?_
              refine lv_topi (fun v12 ev12 => ?_)
              replace h := h v12 ev12
              refine lv_istore_n (lv' := [(1, .int v12), (3, .int r9), (2, .int r5), (0, .ref (ga X 19))]) hx hb ddX0_parse_68 rfl hl (by decide) rfl (fun ls hl => ?_)
              refine lv_goto (tgt := 7) hx hb ddX0_parse_69 (by decide) ?_
              exact ih7 _ _ _ _ _ hS (lv_sub hl [3, 0] rfl) h
            · replace h := h.2 c11
              exact hJ58 _ _ _ _ _ hS (lv_sub hl [2, 1] rfl) h
          · replace h := h.2 c10
            refine lv_iconst (v := (1 : Int32)) hx hb ddX0_parse_50 (by decide) ?_
            exact k_zret hx hb hr hlocks hK hS rfl h ddX0_parse_51
        · replace h := h.2 c6
          refine lv_iconst (v := (0 : Int32)) hx hb ddX0_parse_27 (by decide) ?_
          exact k_zret hx hb hr hlocks hK hS rfl h ddX0_parse_28
  unfold wp_X0_parse at h
  refine lv_aload_n hx hb ddX0_parse_0 rfl (lv_at hl 0 rfl) ?_
  refine lv_iconst (v := (0 : Int32)) hx hb ddX0_parse_1 (by decide) ?_
  refine put_19_4 hx hb hown ht hK hS lk93 ddX0_parse_2 (fun H locs hS => ?_)
  obtain ⟨σ1, eσ1⟩ : ∃ y : Mem, y = (st σ 19 4 (0 : Int32)) := ⟨_, rfl⟩
  rw [← eσ1] at hS
  replace h := h σ1 eσ1
  refine lv_iconst (v := (0 : Int32)) hx hb ddX0_parse_5 (by decide) ?_
  refine lv_istore_n (lv' := [(1, .int (0 : Int32)), (0, .ref (ga X 19))]) hx hb ddX0_parse_6 rfl hl (by decide) rfl (fun ls hl => ?_)
  obtain ⟨n, h⟩ := h
  exact hL7 n _ _ _ _ _ hS (lv_sub hl [1, 0] rfl) h
