set_option maxHeartbeats 4000000 in
set_option maxRecDepth 100000 in
theorem c_X2_copyTo_6 (l : Launch) (X : GX) {σ : Mem} {K : Mem → Prop} (h : wp_X2_copyTo_6 σ K) : MV l X yX2_copyTo cX2_copyTo 2 ((Option.none : Option Jvm.ClassFile.FieldType)) ({ frames := 1, cells := 0, slots := 0, locals := 80 } : Room) [.ref (ga X 1), .ref (ga X 6)] σ K := by
  refine ent_met (QQ := fun A => va_Qv K (BW X A) A) (by decide) (Nat.le_of_ble_eq_true rfl) ?_
  intro p e s m args below meth c A ls hx hb hr hlocks hml hown ht hK hZ hA hS hl
  have hown : s.vm.findClass "GuardRoster$Roster" = some m.cls := hown
  have hl : lv_has ls 2 [(0, .ref (ga X 1)), (1, .ref (ga X 6))] := hl
  unfold wp_X2_copyTo_6 at h
  refine lv_aload_n hx hb ddX2_copyTo_0 rfl (lv_at hl 1 rfl) ?_
  refine lv_ifnull hx hb ddX2_copyTo_1 ?_
  refine lv_aload_n hx hb ddX2_copyTo_4 rfl (lv_at hl 1 rfl) ?_
  refine aln_6 hx hb hK hS ddX2_copyTo_5 ?_
  refine lv_sipush (v := (179 : Int32)) hx hb ddX2_copyTo_6 (by decide) ?_
  refine lv_icmp_ne (tgt := 25) hx hb ddX2_copyTo_9 (by decide) (fun c1 => ?_) (fun c1 => ?_)
  · replace h := h.1 c1
    exact k_vret hx hb hr hlocks hK hS h ddX2_copyTo_25
  · replace h := h.2 c1
    refine lv_aload_n hx hb ddX2_copyTo_12 rfl (lv_at hl 0 rfl) ?_
    refine get_1_0 hx hb hown ht hK hS lk38 ddX2_copyTo_13 ?_
    refine lv_iconst (v := (0 : Int32)) hx hb ddX2_copyTo_16 (by decide) ?_
    refine lv_aload_n hx hb ddX2_copyTo_17 rfl (lv_at hl 1 rfl) ?_
    refine lv_iconst (v := (0 : Int32)) hx hb ddX2_copyTo_18 (by decide) ?_
    refine lv_sipush (v := (179 : Int32)) hx hb ddX2_copyTo_19 (by decide) ?_
    refine k_copy (rest := []) hx hb (hml.trans hl.1.symm) hown ht lk392 hK hS 2 6 rfl rfl (Nat.le_of_ble_eq_true rfl) (by decide +kernel) ddX2_copyTo_22 (fun _ => rfl) (fun H locs hS => ?_)
    obtain ⟨σ2, eσ2⟩ : ∃ y : Mem, y = (cp σ 2 6) := ⟨_, rfl⟩
    rw [← eσ2] at hS
    replace h := h σ2 eσ2
    exact k_vret hx hb hr hlocks hK hS h ddX2_copyTo_25

set_option maxHeartbeats 4000000 in
set_option maxRecDepth 100000 in
theorem c_X2_copyTo_7 (l : Launch) (X : GX) {σ : Mem} {K : Mem → Prop} (h : wp_X2_copyTo_7 σ K) : MV l X yX2_copyTo cX2_copyTo 2 ((Option.none : Option Jvm.ClassFile.FieldType)) ({ frames := 1, cells := 0, slots := 0, locals := 80 } : Room) [.ref (ga X 1), .ref (ga X 7)] σ K := by
  refine ent_met (QQ := fun A => va_Qv K (BW X A) A) (by decide) (Nat.le_of_ble_eq_true rfl) ?_
  intro p e s m args below meth c A ls hx hb hr hlocks hml hown ht hK hZ hA hS hl
  have hown : s.vm.findClass "GuardRoster$Roster" = some m.cls := hown
  have hl : lv_has ls 2 [(0, .ref (ga X 1)), (1, .ref (ga X 7))] := hl
  unfold wp_X2_copyTo_7 at h
  refine lv_aload_n hx hb ddX2_copyTo_0 rfl (lv_at hl 1 rfl) ?_
  refine lv_ifnull hx hb ddX2_copyTo_1 ?_
  refine lv_aload_n hx hb ddX2_copyTo_4 rfl (lv_at hl 1 rfl) ?_
  refine aln_7 hx hb hK hS ddX2_copyTo_5 ?_
  refine lv_sipush (v := (179 : Int32)) hx hb ddX2_copyTo_6 (by decide) ?_
  refine lv_icmp_ne (tgt := 25) hx hb ddX2_copyTo_9 (by decide) (fun c1 => ?_) (fun c1 => ?_)
  · replace h := h.1 c1
    exact k_vret hx hb hr hlocks hK hS h ddX2_copyTo_25
  · replace h := h.2 c1
    refine lv_aload_n hx hb ddX2_copyTo_12 rfl (lv_at hl 0 rfl) ?_
    refine get_1_0 hx hb hown ht hK hS lk38 ddX2_copyTo_13 ?_
    refine lv_iconst (v := (0 : Int32)) hx hb ddX2_copyTo_16 (by decide) ?_
    refine lv_aload_n hx hb ddX2_copyTo_17 rfl (lv_at hl 1 rfl) ?_
    refine lv_iconst (v := (0 : Int32)) hx hb ddX2_copyTo_18 (by decide) ?_
    refine lv_sipush (v := (179 : Int32)) hx hb ddX2_copyTo_19 (by decide) ?_
    refine k_copy (rest := []) hx hb (hml.trans hl.1.symm) hown ht lk392 hK hS 2 7 rfl rfl (Nat.le_of_ble_eq_true rfl) (by decide +kernel) ddX2_copyTo_22 (fun _ => rfl) (fun H locs hS => ?_)
    obtain ⟨σ2, eσ2⟩ : ∃ y : Mem, y = (cp σ 2 7) := ⟨_, rfl⟩
    rw [← eσ2] at hS
    replace h := h σ2 eσ2
    exact k_vret hx hb hr hlocks hK hS h ddX2_copyTo_25

set_option maxHeartbeats 4000000 in
set_option maxRecDepth 100000 in
theorem c_X2_copyTo_8 (l : Launch) (X : GX) {σ : Mem} {K : Mem → Prop} (h : wp_X2_copyTo_8 σ K) : MV l X yX2_copyTo cX2_copyTo 2 ((Option.none : Option Jvm.ClassFile.FieldType)) ({ frames := 1, cells := 0, slots := 0, locals := 80 } : Room) [.ref (ga X 1), .ref (ga X 8)] σ K := by
  refine ent_met (QQ := fun A => va_Qv K (BW X A) A) (by decide) (Nat.le_of_ble_eq_true rfl) ?_
  intro p e s m args below meth c A ls hx hb hr hlocks hml hown ht hK hZ hA hS hl
  have hown : s.vm.findClass "GuardRoster$Roster" = some m.cls := hown
  have hl : lv_has ls 2 [(0, .ref (ga X 1)), (1, .ref (ga X 8))] := hl
  unfold wp_X2_copyTo_8 at h
  refine lv_aload_n hx hb ddX2_copyTo_0 rfl (lv_at hl 1 rfl) ?_
  refine lv_ifnull hx hb ddX2_copyTo_1 ?_
  refine lv_aload_n hx hb ddX2_copyTo_4 rfl (lv_at hl 1 rfl) ?_
  refine aln_8 hx hb hK hS ddX2_copyTo_5 ?_
  refine lv_sipush (v := (179 : Int32)) hx hb ddX2_copyTo_6 (by decide) ?_
  refine lv_icmp_ne (tgt := 25) hx hb ddX2_copyTo_9 (by decide) (fun c1 => ?_) (fun c1 => ?_)
  · replace h := h.1 c1
    exact k_vret hx hb hr hlocks hK hS h ddX2_copyTo_25
  · replace h := h.2 c1
    refine lv_aload_n hx hb ddX2_copyTo_12 rfl (lv_at hl 0 rfl) ?_
    refine get_1_0 hx hb hown ht hK hS lk38 ddX2_copyTo_13 ?_
    refine lv_iconst (v := (0 : Int32)) hx hb ddX2_copyTo_16 (by decide) ?_
    refine lv_aload_n hx hb ddX2_copyTo_17 rfl (lv_at hl 1 rfl) ?_
    refine lv_iconst (v := (0 : Int32)) hx hb ddX2_copyTo_18 (by decide) ?_
    refine lv_sipush (v := (179 : Int32)) hx hb ddX2_copyTo_19 (by decide) ?_
    refine k_copy (rest := []) hx hb (hml.trans hl.1.symm) hown ht lk392 hK hS 2 8 rfl rfl (Nat.le_of_ble_eq_true rfl) (by decide +kernel) ddX2_copyTo_22 (fun _ => rfl) (fun H locs hS => ?_)
    obtain ⟨σ2, eσ2⟩ : ∃ y : Mem, y = (cp σ 2 8) := ⟨_, rfl⟩
    rw [← eσ2] at hS
    replace h := h σ2 eσ2
    exact k_vret hx hb hr hlocks hK hS h ddX2_copyTo_25

set_option maxHeartbeats 4000000 in
set_option maxRecDepth 100000 in
theorem c_X2_copyTo_9 (l : Launch) (X : GX) {σ : Mem} {K : Mem → Prop} (h : wp_X2_copyTo_9 σ K) : MV l X yX2_copyTo cX2_copyTo 2 ((Option.none : Option Jvm.ClassFile.FieldType)) ({ frames := 1, cells := 0, slots := 0, locals := 80 } : Room) [.ref (ga X 1), .ref (ga X 9)] σ K := by
  refine ent_met (QQ := fun A => va_Qv K (BW X A) A) (by decide) (Nat.le_of_ble_eq_true rfl) ?_
  intro p e s m args below meth c A ls hx hb hr hlocks hml hown ht hK hZ hA hS hl
  have hown : s.vm.findClass "GuardRoster$Roster" = some m.cls := hown
  have hl : lv_has ls 2 [(0, .ref (ga X 1)), (1, .ref (ga X 9))] := hl
  unfold wp_X2_copyTo_9 at h
  refine lv_aload_n hx hb ddX2_copyTo_0 rfl (lv_at hl 1 rfl) ?_
  refine lv_ifnull hx hb ddX2_copyTo_1 ?_
  refine lv_aload_n hx hb ddX2_copyTo_4 rfl (lv_at hl 1 rfl) ?_
  refine aln_9 hx hb hK hS ddX2_copyTo_5 ?_
  refine lv_sipush (v := (179 : Int32)) hx hb ddX2_copyTo_6 (by decide) ?_
  refine lv_icmp_ne (tgt := 25) hx hb ddX2_copyTo_9 (by decide) (fun c1 => ?_) (fun c1 => ?_)
  · replace h := h.1 c1
    exact k_vret hx hb hr hlocks hK hS h ddX2_copyTo_25
  · replace h := h.2 c1
    refine lv_aload_n hx hb ddX2_copyTo_12 rfl (lv_at hl 0 rfl) ?_
    refine get_1_0 hx hb hown ht hK hS lk38 ddX2_copyTo_13 ?_
    refine lv_iconst (v := (0 : Int32)) hx hb ddX2_copyTo_16 (by decide) ?_
    refine lv_aload_n hx hb ddX2_copyTo_17 rfl (lv_at hl 1 rfl) ?_
    refine lv_iconst (v := (0 : Int32)) hx hb ddX2_copyTo_18 (by decide) ?_
    refine lv_sipush (v := (179 : Int32)) hx hb ddX2_copyTo_19 (by decide) ?_
    refine k_copy (rest := []) hx hb (hml.trans hl.1.symm) hown ht lk392 hK hS 2 9 rfl rfl (Nat.le_of_ble_eq_true rfl) (by decide +kernel) ddX2_copyTo_22 (fun _ => rfl) (fun H locs hS => ?_)
    obtain ⟨σ2, eσ2⟩ : ∃ y : Mem, y = (cp σ 2 9) := ⟨_, rfl⟩
    rw [← eσ2] at hS
    replace h := h σ2 eσ2
    exact k_vret hx hb hr hlocks hK hS h ddX2_copyTo_25

set_option maxHeartbeats 4000000 in
set_option maxRecDepth 100000 in
theorem c_X2_copyTo_10 (l : Launch) (X : GX) {σ : Mem} {K : Mem → Prop} (h : wp_X2_copyTo_10 σ K) : MV l X yX2_copyTo cX2_copyTo 2 ((Option.none : Option Jvm.ClassFile.FieldType)) ({ frames := 1, cells := 0, slots := 0, locals := 80 } : Room) [.ref (ga X 1), .ref (ga X 10)] σ K := by
  refine ent_met (QQ := fun A => va_Qv K (BW X A) A) (by decide) (Nat.le_of_ble_eq_true rfl) ?_
  intro p e s m args below meth c A ls hx hb hr hlocks hml hown ht hK hZ hA hS hl
  have hown : s.vm.findClass "GuardRoster$Roster" = some m.cls := hown
  have hl : lv_has ls 2 [(0, .ref (ga X 1)), (1, .ref (ga X 10))] := hl
  unfold wp_X2_copyTo_10 at h
  refine lv_aload_n hx hb ddX2_copyTo_0 rfl (lv_at hl 1 rfl) ?_
  refine lv_ifnull hx hb ddX2_copyTo_1 ?_
  refine lv_aload_n hx hb ddX2_copyTo_4 rfl (lv_at hl 1 rfl) ?_
  refine aln_10 hx hb hK hS ddX2_copyTo_5 ?_
  refine lv_sipush (v := (179 : Int32)) hx hb ddX2_copyTo_6 (by decide) ?_
  refine lv_icmp_ne (tgt := 25) hx hb ddX2_copyTo_9 (by decide) (fun c1 => ?_) (fun c1 => ?_)
  · replace h := h.1 c1
    exact k_vret hx hb hr hlocks hK hS h ddX2_copyTo_25
  · replace h := h.2 c1
    refine lv_aload_n hx hb ddX2_copyTo_12 rfl (lv_at hl 0 rfl) ?_
    refine get_1_0 hx hb hown ht hK hS lk38 ddX2_copyTo_13 ?_
    refine lv_iconst (v := (0 : Int32)) hx hb ddX2_copyTo_16 (by decide) ?_
    refine lv_aload_n hx hb ddX2_copyTo_17 rfl (lv_at hl 1 rfl) ?_
    refine lv_iconst (v := (0 : Int32)) hx hb ddX2_copyTo_18 (by decide) ?_
    refine lv_sipush (v := (179 : Int32)) hx hb ddX2_copyTo_19 (by decide) ?_
    refine k_copy (rest := []) hx hb (hml.trans hl.1.symm) hown ht lk392 hK hS 2 10 rfl rfl (Nat.le_of_ble_eq_true rfl) (by decide +kernel) ddX2_copyTo_22 (fun _ => rfl) (fun H locs hS => ?_)
    obtain ⟨σ2, eσ2⟩ : ∃ y : Mem, y = (cp σ 2 10) := ⟨_, rfl⟩
    rw [← eσ2] at hS
    replace h := h σ2 eσ2
    exact k_vret hx hb hr hlocks hK hS h ddX2_copyTo_25

set_option maxHeartbeats 4000000 in
set_option maxRecDepth 100000 in
theorem c_X2_copyTo_11 (l : Launch) (X : GX) {σ : Mem} {K : Mem → Prop} (h : wp_X2_copyTo_11 σ K) : MV l X yX2_copyTo cX2_copyTo 2 ((Option.none : Option Jvm.ClassFile.FieldType)) ({ frames := 1, cells := 0, slots := 0, locals := 80 } : Room) [.ref (ga X 1), .ref (ga X 11)] σ K := by
  refine ent_met (QQ := fun A => va_Qv K (BW X A) A) (by decide) (Nat.le_of_ble_eq_true rfl) ?_
  intro p e s m args below meth c A ls hx hb hr hlocks hml hown ht hK hZ hA hS hl
  have hown : s.vm.findClass "GuardRoster$Roster" = some m.cls := hown
  have hl : lv_has ls 2 [(0, .ref (ga X 1)), (1, .ref (ga X 11))] := hl
  unfold wp_X2_copyTo_11 at h
  refine lv_aload_n hx hb ddX2_copyTo_0 rfl (lv_at hl 1 rfl) ?_
  refine lv_ifnull hx hb ddX2_copyTo_1 ?_
  refine lv_aload_n hx hb ddX2_copyTo_4 rfl (lv_at hl 1 rfl) ?_
  refine aln_11 hx hb hK hS ddX2_copyTo_5 ?_
  refine lv_sipush (v := (179 : Int32)) hx hb ddX2_copyTo_6 (by decide) ?_
  refine lv_icmp_ne (tgt := 25) hx hb ddX2_copyTo_9 (by decide) (fun c1 => ?_) (fun c1 => ?_)
  · replace h := h.1 c1
    exact k_vret hx hb hr hlocks hK hS h ddX2_copyTo_25
  · replace h := h.2 c1
    refine lv_aload_n hx hb ddX2_copyTo_12 rfl (lv_at hl 0 rfl) ?_
    refine get_1_0 hx hb hown ht hK hS lk38 ddX2_copyTo_13 ?_
    refine lv_iconst (v := (0 : Int32)) hx hb ddX2_copyTo_16 (by decide) ?_
    refine lv_aload_n hx hb ddX2_copyTo_17 rfl (lv_at hl 1 rfl) ?_
    refine lv_iconst (v := (0 : Int32)) hx hb ddX2_copyTo_18 (by decide) ?_
    refine lv_sipush (v := (179 : Int32)) hx hb ddX2_copyTo_19 (by decide) ?_
    refine k_copy (rest := []) hx hb (hml.trans hl.1.symm) hown ht lk392 hK hS 2 11 rfl rfl (Nat.le_of_ble_eq_true rfl) (by decide +kernel) ddX2_copyTo_22 (fun _ => rfl) (fun H locs hS => ?_)
    obtain ⟨σ2, eσ2⟩ : ∃ y : Mem, y = (cp σ 2 11) := ⟨_, rfl⟩
    rw [← eσ2] at hS
    replace h := h σ2 eσ2
    exact k_vret hx hb hr hlocks hK hS h ddX2_copyTo_25

set_option maxHeartbeats 4000000 in
set_option maxRecDepth 100000 in
theorem c_X2_copyTo_12 (l : Launch) (X : GX) {σ : Mem} {K : Mem → Prop} (h : wp_X2_copyTo_12 σ K) : MV l X yX2_copyTo cX2_copyTo 2 ((Option.none : Option Jvm.ClassFile.FieldType)) ({ frames := 1, cells := 0, slots := 0, locals := 80 } : Room) [.ref (ga X 1), .ref (ga X 12)] σ K := by
  refine ent_met (QQ := fun A => va_Qv K (BW X A) A) (by decide) (Nat.le_of_ble_eq_true rfl) ?_
  intro p e s m args below meth c A ls hx hb hr hlocks hml hown ht hK hZ hA hS hl
  have hown : s.vm.findClass "GuardRoster$Roster" = some m.cls := hown
  have hl : lv_has ls 2 [(0, .ref (ga X 1)), (1, .ref (ga X 12))] := hl
  unfold wp_X2_copyTo_12 at h
  refine lv_aload_n hx hb ddX2_copyTo_0 rfl (lv_at hl 1 rfl) ?_
  refine lv_ifnull hx hb ddX2_copyTo_1 ?_
  refine lv_aload_n hx hb ddX2_copyTo_4 rfl (lv_at hl 1 rfl) ?_
  refine aln_12 hx hb hK hS ddX2_copyTo_5 ?_
  refine lv_sipush (v := (179 : Int32)) hx hb ddX2_copyTo_6 (by decide) ?_
  refine lv_icmp_ne (tgt := 25) hx hb ddX2_copyTo_9 (by decide) (fun c1 => ?_) (fun c1 => ?_)
  · replace h := h.1 c1
    exact k_vret hx hb hr hlocks hK hS h ddX2_copyTo_25
  · replace h := h.2 c1
    refine lv_aload_n hx hb ddX2_copyTo_12 rfl (lv_at hl 0 rfl) ?_
    refine get_1_0 hx hb hown ht hK hS lk38 ddX2_copyTo_13 ?_
    refine lv_iconst (v := (0 : Int32)) hx hb ddX2_copyTo_16 (by decide) ?_
    refine lv_aload_n hx hb ddX2_copyTo_17 rfl (lv_at hl 1 rfl) ?_
    refine lv_iconst (v := (0 : Int32)) hx hb ddX2_copyTo_18 (by decide) ?_
    refine lv_sipush (v := (179 : Int32)) hx hb ddX2_copyTo_19 (by decide) ?_
    refine k_copy (rest := []) hx hb (hml.trans hl.1.symm) hown ht lk392 hK hS 2 12 rfl rfl (Nat.le_of_ble_eq_true rfl) (by decide +kernel) ddX2_copyTo_22 (fun _ => rfl) (fun H locs hS => ?_)
    obtain ⟨σ2, eσ2⟩ : ∃ y : Mem, y = (cp σ 2 12) := ⟨_, rfl⟩
    rw [← eσ2] at hS
    replace h := h σ2 eσ2
    exact k_vret hx hb hr hlocks hK hS h ddX2_copyTo_25

set_option maxHeartbeats 4000000 in
set_option maxRecDepth 100000 in
theorem c_X2_copyTo_13 (l : Launch) (X : GX) {σ : Mem} {K : Mem → Prop} (h : wp_X2_copyTo_13 σ K) : MV l X yX2_copyTo cX2_copyTo 2 ((Option.none : Option Jvm.ClassFile.FieldType)) ({ frames := 1, cells := 0, slots := 0, locals := 80 } : Room) [.ref (ga X 1), .ref (ga X 13)] σ K := by
  refine ent_met (QQ := fun A => va_Qv K (BW X A) A) (by decide) (Nat.le_of_ble_eq_true rfl) ?_
  intro p e s m args below meth c A ls hx hb hr hlocks hml hown ht hK hZ hA hS hl
  have hown : s.vm.findClass "GuardRoster$Roster" = some m.cls := hown
  have hl : lv_has ls 2 [(0, .ref (ga X 1)), (1, .ref (ga X 13))] := hl
  unfold wp_X2_copyTo_13 at h
  refine lv_aload_n hx hb ddX2_copyTo_0 rfl (lv_at hl 1 rfl) ?_
  refine lv_ifnull hx hb ddX2_copyTo_1 ?_
  refine lv_aload_n hx hb ddX2_copyTo_4 rfl (lv_at hl 1 rfl) ?_
  refine aln_13 hx hb hK hS ddX2_copyTo_5 ?_
  refine lv_sipush (v := (179 : Int32)) hx hb ddX2_copyTo_6 (by decide) ?_
  refine lv_icmp_ne (tgt := 25) hx hb ddX2_copyTo_9 (by decide) (fun c1 => ?_) (fun c1 => ?_)
  · replace h := h.1 c1
    exact k_vret hx hb hr hlocks hK hS h ddX2_copyTo_25
  · replace h := h.2 c1
    refine lv_aload_n hx hb ddX2_copyTo_12 rfl (lv_at hl 0 rfl) ?_
    refine get_1_0 hx hb hown ht hK hS lk38 ddX2_copyTo_13 ?_
    refine lv_iconst (v := (0 : Int32)) hx hb ddX2_copyTo_16 (by decide) ?_
    refine lv_aload_n hx hb ddX2_copyTo_17 rfl (lv_at hl 1 rfl) ?_
    refine lv_iconst (v := (0 : Int32)) hx hb ddX2_copyTo_18 (by decide) ?_
    refine lv_sipush (v := (179 : Int32)) hx hb ddX2_copyTo_19 (by decide) ?_
    refine k_copy (rest := []) hx hb (hml.trans hl.1.symm) hown ht lk392 hK hS 2 13 rfl rfl (Nat.le_of_ble_eq_true rfl) (by decide +kernel) ddX2_copyTo_22 (fun _ => rfl) (fun H locs hS => ?_)
    obtain ⟨σ2, eσ2⟩ : ∃ y : Mem, y = (cp σ 2 13) := ⟨_, rfl⟩
    rw [← eσ2] at hS
    replace h := h σ2 eσ2
    exact k_vret hx hb hr hlocks hK hS h ddX2_copyTo_25

set_option maxHeartbeats 4000000 in
set_option maxRecDepth 100000 in
theorem c_X2_copyTo_14 (l : Launch) (X : GX) {σ : Mem} {K : Mem → Prop} (h : wp_X2_copyTo_14 σ K) : MV l X yX2_copyTo cX2_copyTo 2 ((Option.none : Option Jvm.ClassFile.FieldType)) ({ frames := 1, cells := 0, slots := 0, locals := 80 } : Room) [.ref (ga X 1), .ref (ga X 14)] σ K := by
  refine ent_met (QQ := fun A => va_Qv K (BW X A) A) (by decide) (Nat.le_of_ble_eq_true rfl) ?_
  intro p e s m args below meth c A ls hx hb hr hlocks hml hown ht hK hZ hA hS hl
  have hown : s.vm.findClass "GuardRoster$Roster" = some m.cls := hown
  have hl : lv_has ls 2 [(0, .ref (ga X 1)), (1, .ref (ga X 14))] := hl
  unfold wp_X2_copyTo_14 at h
  refine lv_aload_n hx hb ddX2_copyTo_0 rfl (lv_at hl 1 rfl) ?_
  refine lv_ifnull hx hb ddX2_copyTo_1 ?_
  refine lv_aload_n hx hb ddX2_copyTo_4 rfl (lv_at hl 1 rfl) ?_
  refine aln_14 hx hb hK hS ddX2_copyTo_5 ?_
  refine lv_sipush (v := (179 : Int32)) hx hb ddX2_copyTo_6 (by decide) ?_
  refine lv_icmp_ne (tgt := 25) hx hb ddX2_copyTo_9 (by decide) (fun c1 => ?_) (fun c1 => ?_)
  · replace h := h.1 c1
    exact k_vret hx hb hr hlocks hK hS h ddX2_copyTo_25
  · replace h := h.2 c1
    refine lv_aload_n hx hb ddX2_copyTo_12 rfl (lv_at hl 0 rfl) ?_
    refine get_1_0 hx hb hown ht hK hS lk38 ddX2_copyTo_13 ?_
    refine lv_iconst (v := (0 : Int32)) hx hb ddX2_copyTo_16 (by decide) ?_
    refine lv_aload_n hx hb ddX2_copyTo_17 rfl (lv_at hl 1 rfl) ?_
    refine lv_iconst (v := (0 : Int32)) hx hb ddX2_copyTo_18 (by decide) ?_
    refine lv_sipush (v := (179 : Int32)) hx hb ddX2_copyTo_19 (by decide) ?_
    refine k_copy (rest := []) hx hb (hml.trans hl.1.symm) hown ht lk392 hK hS 2 14 rfl rfl (Nat.le_of_ble_eq_true rfl) (by decide +kernel) ddX2_copyTo_22 (fun _ => rfl) (fun H locs hS => ?_)
    obtain ⟨σ2, eσ2⟩ : ∃ y : Mem, y = (cp σ 2 14) := ⟨_, rfl⟩
    rw [← eσ2] at hS
    replace h := h σ2 eσ2
    exact k_vret hx hb hr hlocks hK hS h ddX2_copyTo_25

set_option maxHeartbeats 4000000 in
set_option maxRecDepth 100000 in
theorem c_X2_copyTo_23 (l : Launch) (X : GX) {σ : Mem} {K : Mem → Prop} (h : wp_X2_copyTo_23 σ K) : MV l X yX2_copyTo cX2_copyTo 2 ((Option.none : Option Jvm.ClassFile.FieldType)) ({ frames := 1, cells := 0, slots := 0, locals := 80 } : Room) [.ref (ga X 1), .ref (ga X 23)] σ K := by
  refine ent_met (QQ := fun A => va_Qv K (BW X A) A) (by decide) (Nat.le_of_ble_eq_true rfl) ?_
  intro p e s m args below meth c A ls hx hb hr hlocks hml hown ht hK hZ hA hS hl
  have hown : s.vm.findClass "GuardRoster$Roster" = some m.cls := hown
  have hl : lv_has ls 2 [(0, .ref (ga X 1)), (1, .ref (ga X 23))] := hl
  unfold wp_X2_copyTo_23 at h
  refine lv_aload_n hx hb ddX2_copyTo_0 rfl (lv_at hl 1 rfl) ?_
  refine lv_ifnull hx hb ddX2_copyTo_1 ?_
  refine lv_aload_n hx hb ddX2_copyTo_4 rfl (lv_at hl 1 rfl) ?_
  refine aln_23 hx hb hK hS ddX2_copyTo_5 ?_
  refine lv_sipush (v := (179 : Int32)) hx hb ddX2_copyTo_6 (by decide) ?_
  refine lv_icmp_ne (tgt := 25) hx hb ddX2_copyTo_9 (by decide) (fun c1 => ?_) (fun c1 => ?_)
  · replace h := h.1 c1
    exact k_vret hx hb hr hlocks hK hS h ddX2_copyTo_25
  · replace h := h.2 c1
    refine lv_aload_n hx hb ddX2_copyTo_12 rfl (lv_at hl 0 rfl) ?_
    refine get_1_0 hx hb hown ht hK hS lk38 ddX2_copyTo_13 ?_
    refine lv_iconst (v := (0 : Int32)) hx hb ddX2_copyTo_16 (by decide) ?_
    refine lv_aload_n hx hb ddX2_copyTo_17 rfl (lv_at hl 1 rfl) ?_
    refine lv_iconst (v := (0 : Int32)) hx hb ddX2_copyTo_18 (by decide) ?_
    refine lv_sipush (v := (179 : Int32)) hx hb ddX2_copyTo_19 (by decide) ?_
    refine k_copy (rest := []) hx hb (hml.trans hl.1.symm) hown ht lk392 hK hS 2 23 rfl rfl (Nat.le_of_ble_eq_true rfl) (by decide +kernel) ddX2_copyTo_22 (fun _ => rfl) (fun H locs hS => ?_)
    obtain ⟨σ2, eσ2⟩ : ∃ y : Mem, y = (cp σ 2 23) := ⟨_, rfl⟩
    rw [← eσ2] at hS
    replace h := h σ2 eσ2
    exact k_vret hx hb hr hlocks hK hS h ddX2_copyTo_25

set_option maxHeartbeats 4000000 in
set_option maxRecDepth 100000 in
theorem c_X2_copyFrom_6 (l : Launch) (X : GX) {σ : Mem} {K : Mem → Prop} (h : wp_X2_copyFrom_6 σ K) : MV l X yX2_copyFrom cX2_copyFrom 2 ((Option.none : Option Jvm.ClassFile.FieldType)) ({ frames := 1, cells := 0, slots := 0, locals := 80 } : Room) [.ref (ga X 1), .ref (ga X 6)] σ K := by
  refine ent_met (QQ := fun A => va_Qv K (BW X A) A) (by decide) (Nat.le_of_ble_eq_true rfl) ?_
  intro p e s m args below meth c A ls hx hb hr hlocks hml hown ht hK hZ hA hS hl
  have hown : s.vm.findClass "GuardRoster$Roster" = some m.cls := hown
  have hl : lv_has ls 2 [(0, .ref (ga X 1)), (1, .ref (ga X 6))] := hl
  unfold wp_X2_copyFrom_6 at h
  refine lv_aload_n hx hb ddX2_copyFrom_0 rfl (lv_at hl 1 rfl) ?_
  refine lv_ifnull hx hb ddX2_copyFrom_1 ?_
  refine lv_aload_n hx hb ddX2_copyFrom_4 rfl (lv_at hl 1 rfl) ?_
  refine aln_6 hx hb hK hS ddX2_copyFrom_5 ?_
  refine lv_sipush (v := (179 : Int32)) hx hb ddX2_copyFrom_6 (by decide) ?_
  refine lv_icmp_ne (tgt := 25) hx hb ddX2_copyFrom_9 (by decide) (fun c1 => ?_) (fun c1 => ?_)
  · replace h := h.1 c1
    exact k_vret hx hb hr hlocks hK hS h ddX2_copyFrom_25
  · replace h := h.2 c1
    refine lv_aload_n hx hb ddX2_copyFrom_12 rfl (lv_at hl 1 rfl) ?_
    refine lv_iconst (v := (0 : Int32)) hx hb ddX2_copyFrom_13 (by decide) ?_
    refine lv_aload_n hx hb ddX2_copyFrom_14 rfl (lv_at hl 0 rfl) ?_
    refine get_1_0 hx hb hown ht hK hS lk38 ddX2_copyFrom_15 ?_
    refine lv_iconst (v := (0 : Int32)) hx hb ddX2_copyFrom_18 (by decide) ?_
    refine lv_sipush (v := (179 : Int32)) hx hb ddX2_copyFrom_19 (by decide) ?_
    refine k_copy (rest := []) hx hb (hml.trans hl.1.symm) hown ht lk392 hK hS 6 2 rfl rfl (Nat.le_of_ble_eq_true rfl) (by decide +kernel) ddX2_copyFrom_22 (fun _ => rfl) (fun H locs hS => ?_)
    obtain ⟨σ2, eσ2⟩ : ∃ y : Mem, y = (cp σ 6 2) := ⟨_, rfl⟩
    rw [← eσ2] at hS
    replace h := h σ2 eσ2
    exact k_vret hx hb hr hlocks hK hS h ddX2_copyFrom_25

set_option maxHeartbeats 4000000 in
set_option maxRecDepth 100000 in
theorem c_X2_copyFrom_7 (l : Launch) (X : GX) {σ : Mem} {K : Mem → Prop} (h : wp_X2_copyFrom_7 σ K) : MV l X yX2_copyFrom cX2_copyFrom 2 ((Option.none : Option Jvm.ClassFile.FieldType)) ({ frames := 1, cells := 0, slots := 0, locals := 80 } : Room) [.ref (ga X 1), .ref (ga X 7)] σ K := by
  refine ent_met (QQ := fun A => va_Qv K (BW X A) A) (by decide) (Nat.le_of_ble_eq_true rfl) ?_
  intro p e s m args below meth c A ls hx hb hr hlocks hml hown ht hK hZ hA hS hl
  have hown : s.vm.findClass "GuardRoster$Roster" = some m.cls := hown
  have hl : lv_has ls 2 [(0, .ref (ga X 1)), (1, .ref (ga X 7))] := hl
  unfold wp_X2_copyFrom_7 at h
  refine lv_aload_n hx hb ddX2_copyFrom_0 rfl (lv_at hl 1 rfl) ?_
  refine lv_ifnull hx hb ddX2_copyFrom_1 ?_
  refine lv_aload_n hx hb ddX2_copyFrom_4 rfl (lv_at hl 1 rfl) ?_
  refine aln_7 hx hb hK hS ddX2_copyFrom_5 ?_
  refine lv_sipush (v := (179 : Int32)) hx hb ddX2_copyFrom_6 (by decide) ?_
  refine lv_icmp_ne (tgt := 25) hx hb ddX2_copyFrom_9 (by decide) (fun c1 => ?_) (fun c1 => ?_)
  · replace h := h.1 c1
    exact k_vret hx hb hr hlocks hK hS h ddX2_copyFrom_25
  · replace h := h.2 c1
    refine lv_aload_n hx hb ddX2_copyFrom_12 rfl (lv_at hl 1 rfl) ?_
    refine lv_iconst (v := (0 : Int32)) hx hb ddX2_copyFrom_13 (by decide) ?_
    refine lv_aload_n hx hb ddX2_copyFrom_14 rfl (lv_at hl 0 rfl) ?_
    refine get_1_0 hx hb hown ht hK hS lk38 ddX2_copyFrom_15 ?_
    refine lv_iconst (v := (0 : Int32)) hx hb ddX2_copyFrom_18 (by decide) ?_
    refine lv_sipush (v := (179 : Int32)) hx hb ddX2_copyFrom_19 (by decide) ?_
    refine k_copy (rest := []) hx hb (hml.trans hl.1.symm) hown ht lk392 hK hS 7 2 rfl rfl (Nat.le_of_ble_eq_true rfl) (by decide +kernel) ddX2_copyFrom_22 (fun _ => rfl) (fun H locs hS => ?_)
    obtain ⟨σ2, eσ2⟩ : ∃ y : Mem, y = (cp σ 7 2) := ⟨_, rfl⟩
    rw [← eσ2] at hS
    replace h := h σ2 eσ2
    exact k_vret hx hb hr hlocks hK hS h ddX2_copyFrom_25

set_option maxHeartbeats 4000000 in
set_option maxRecDepth 100000 in
theorem c_X2_copyFrom_8 (l : Launch) (X : GX) {σ : Mem} {K : Mem → Prop} (h : wp_X2_copyFrom_8 σ K) : MV l X yX2_copyFrom cX2_copyFrom 2 ((Option.none : Option Jvm.ClassFile.FieldType)) ({ frames := 1, cells := 0, slots := 0, locals := 80 } : Room) [.ref (ga X 1), .ref (ga X 8)] σ K := by
  refine ent_met (QQ := fun A => va_Qv K (BW X A) A) (by decide) (Nat.le_of_ble_eq_true rfl) ?_
  intro p e s m args below meth c A ls hx hb hr hlocks hml hown ht hK hZ hA hS hl
  have hown : s.vm.findClass "GuardRoster$Roster" = some m.cls := hown
  have hl : lv_has ls 2 [(0, .ref (ga X 1)), (1, .ref (ga X 8))] := hl
  unfold wp_X2_copyFrom_8 at h
  refine lv_aload_n hx hb ddX2_copyFrom_0 rfl (lv_at hl 1 rfl) ?_
  refine lv_ifnull hx hb ddX2_copyFrom_1 ?_
  refine lv_aload_n hx hb ddX2_copyFrom_4 rfl (lv_at hl 1 rfl) ?_
  refine aln_8 hx hb hK hS ddX2_copyFrom_5 ?_
  refine lv_sipush (v := (179 : Int32)) hx hb ddX2_copyFrom_6 (by decide) ?_
  refine lv_icmp_ne (tgt := 25) hx hb ddX2_copyFrom_9 (by decide) (fun c1 => ?_) (fun c1 => ?_)
  · replace h := h.1 c1
    exact k_vret hx hb hr hlocks hK hS h ddX2_copyFrom_25
  · replace h := h.2 c1
    refine lv_aload_n hx hb ddX2_copyFrom_12 rfl (lv_at hl 1 rfl) ?_
    refine lv_iconst (v := (0 : Int32)) hx hb ddX2_copyFrom_13 (by decide) ?_
    refine lv_aload_n hx hb ddX2_copyFrom_14 rfl (lv_at hl 0 rfl) ?_
    refine get_1_0 hx hb hown ht hK hS lk38 ddX2_copyFrom_15 ?_
    refine lv_iconst (v := (0 : Int32)) hx hb ddX2_copyFrom_18 (by decide) ?_
    refine lv_sipush (v := (179 : Int32)) hx hb ddX2_copyFrom_19 (by decide) ?_
    refine k_copy (rest := []) hx hb (hml.trans hl.1.symm) hown ht lk392 hK hS 8 2 rfl rfl (Nat.le_of_ble_eq_true rfl) (by decide +kernel) ddX2_copyFrom_22 (fun _ => rfl) (fun H locs hS => ?_)
    obtain ⟨σ2, eσ2⟩ : ∃ y : Mem, y = (cp σ 8 2) := ⟨_, rfl⟩
    rw [← eσ2] at hS
    replace h := h σ2 eσ2
    exact k_vret hx hb hr hlocks hK hS h ddX2_copyFrom_25

set_option maxHeartbeats 4000000 in
set_option maxRecDepth 100000 in
theorem c_X2_copyFrom_9 (l : Launch) (X : GX) {σ : Mem} {K : Mem → Prop} (h : wp_X2_copyFrom_9 σ K) : MV l X yX2_copyFrom cX2_copyFrom 2 ((Option.none : Option Jvm.ClassFile.FieldType)) ({ frames := 1, cells := 0, slots := 0, locals := 80 } : Room) [.ref (ga X 1), .ref (ga X 9)] σ K := by
  refine ent_met (QQ := fun A => va_Qv K (BW X A) A) (by decide) (Nat.le_of_ble_eq_true rfl) ?_
  intro p e s m args below meth c A ls hx hb hr hlocks hml hown ht hK hZ hA hS hl
  have hown : s.vm.findClass "GuardRoster$Roster" = some m.cls := hown
  have hl : lv_has ls 2 [(0, .ref (ga X 1)), (1, .ref (ga X 9))] := hl
  unfold wp_X2_copyFrom_9 at h
  refine lv_aload_n hx hb ddX2_copyFrom_0 rfl (lv_at hl 1 rfl) ?_
  refine lv_ifnull hx hb ddX2_copyFrom_1 ?_
  refine lv_aload_n hx hb ddX2_copyFrom_4 rfl (lv_at hl 1 rfl) ?_
  refine aln_9 hx hb hK hS ddX2_copyFrom_5 ?_
  refine lv_sipush (v := (179 : Int32)) hx hb ddX2_copyFrom_6 (by decide) ?_
  refine lv_icmp_ne (tgt := 25) hx hb ddX2_copyFrom_9 (by decide) (fun c1 => ?_) (fun c1 => ?_)
  · replace h := h.1 c1
    exact k_vret hx hb hr hlocks hK hS h ddX2_copyFrom_25
  · replace h := h.2 c1
    refine lv_aload_n hx hb ddX2_copyFrom_12 rfl (lv_at hl 1 rfl) ?_
    refine lv_iconst (v := (0 : Int32)) hx hb ddX2_copyFrom_13 (by decide) ?_
    refine lv_aload_n hx hb ddX2_copyFrom_14 rfl (lv_at hl 0 rfl) ?_
    refine get_1_0 hx hb hown ht hK hS lk38 ddX2_copyFrom_15 ?_
    refine lv_iconst (v := (0 : Int32)) hx hb ddX2_copyFrom_18 (by decide) ?_
    refine lv_sipush (v := (179 : Int32)) hx hb ddX2_copyFrom_19 (by decide) ?_
    refine k_copy (rest := []) hx hb (hml.trans hl.1.symm) hown ht lk392 hK hS 9 2 rfl rfl (Nat.le_of_ble_eq_true rfl) (by decide +kernel) ddX2_copyFrom_22 (fun _ => rfl) (fun H locs hS => ?_)
    obtain ⟨σ2, eσ2⟩ : ∃ y : Mem, y = (cp σ 9 2) := ⟨_, rfl⟩
    rw [← eσ2] at hS
    replace h := h σ2 eσ2
    exact k_vret hx hb hr hlocks hK hS h ddX2_copyFrom_25

set_option maxHeartbeats 4000000 in
set_option maxRecDepth 100000 in
theorem c_X2_copyFrom_10 (l : Launch) (X : GX) {σ : Mem} {K : Mem → Prop} (h : wp_X2_copyFrom_10 σ K) : MV l X yX2_copyFrom cX2_copyFrom 2 ((Option.none : Option Jvm.ClassFile.FieldType)) ({ frames := 1, cells := 0, slots := 0, locals := 80 } : Room) [.ref (ga X 1), .ref (ga X 10)] σ K := by
  refine ent_met (QQ := fun A => va_Qv K (BW X A) A) (by decide) (Nat.le_of_ble_eq_true rfl) ?_
  intro p e s m args below meth c A ls hx hb hr hlocks hml hown ht hK hZ hA hS hl
  have hown : s.vm.findClass "GuardRoster$Roster" = some m.cls := hown
  have hl : lv_has ls 2 [(0, .ref (ga X 1)), (1, .ref (ga X 10))] := hl
  unfold wp_X2_copyFrom_10 at h
  refine lv_aload_n hx hb ddX2_copyFrom_0 rfl (lv_at hl 1 rfl) ?_
  refine lv_ifnull hx hb ddX2_copyFrom_1 ?_
  refine lv_aload_n hx hb ddX2_copyFrom_4 rfl (lv_at hl 1 rfl) ?_
  refine aln_10 hx hb hK hS ddX2_copyFrom_5 ?_
  refine lv_sipush (v := (179 : Int32)) hx hb ddX2_copyFrom_6 (by decide) ?_
  refine lv_icmp_ne (tgt := 25) hx hb ddX2_copyFrom_9 (by decide) (fun c1 => ?_) (fun c1 => ?_)
  · replace h := h.1 c1
    exact k_vret hx hb hr hlocks hK hS h ddX2_copyFrom_25
  · replace h := h.2 c1
    refine lv_aload_n hx hb ddX2_copyFrom_12 rfl (lv_at hl 1 rfl) ?_
    refine lv_iconst (v := (0 : Int32)) hx hb ddX2_copyFrom_13 (by decide) ?_
    refine lv_aload_n hx hb ddX2_copyFrom_14 rfl (lv_at hl 0 rfl) ?_
    refine get_1_0 hx hb hown ht hK hS lk38 ddX2_copyFrom_15 ?_
    refine lv_iconst (v := (0 : Int32)) hx hb ddX2_copyFrom_18 (by decide) ?_
    refine lv_sipush (v := (179 : Int32)) hx hb ddX2_copyFrom_19 (by decide) ?_
    refine k_copy (rest := []) hx hb (hml.trans hl.1.symm) hown ht lk392 hK hS 10 2 rfl rfl (Nat.le_of_ble_eq_true rfl) (by decide +kernel) ddX2_copyFrom_22 (fun _ => rfl) (fun H locs hS => ?_)
    obtain ⟨σ2, eσ2⟩ : ∃ y : Mem, y = (cp σ 10 2) := ⟨_, rfl⟩
    rw [← eσ2] at hS
    replace h := h σ2 eσ2
    exact k_vret hx hb hr hlocks hK hS h ddX2_copyFrom_25

set_option maxHeartbeats 4000000 in
set_option maxRecDepth 100000 in
theorem c_X2_copyFrom_11 (l : Launch) (X : GX) {σ : Mem} {K : Mem → Prop} (h : wp_X2_copyFrom_11 σ K) : MV l X yX2_copyFrom cX2_copyFrom 2 ((Option.none : Option Jvm.ClassFile.FieldType)) ({ frames := 1, cells := 0, slots := 0, locals := 80 } : Room) [.ref (ga X 1), .ref (ga X 11)] σ K := by
  refine ent_met (QQ := fun A => va_Qv K (BW X A) A) (by decide) (Nat.le_of_ble_eq_true rfl) ?_
  intro p e s m args below meth c A ls hx hb hr hlocks hml hown ht hK hZ hA hS hl
  have hown : s.vm.findClass "GuardRoster$Roster" = some m.cls := hown
  have hl : lv_has ls 2 [(0, .ref (ga X 1)), (1, .ref (ga X 11))] := hl
  unfold wp_X2_copyFrom_11 at h
  refine lv_aload_n hx hb ddX2_copyFrom_0 rfl (lv_at hl 1 rfl) ?_
  refine lv_ifnull hx hb ddX2_copyFrom_1 ?_
  refine lv_aload_n hx hb ddX2_copyFrom_4 rfl (lv_at hl 1 rfl) ?_
  refine aln_11 hx hb hK hS ddX2_copyFrom_5 ?_
  refine lv_sipush (v := (179 : Int32)) hx hb ddX2_copyFrom_6 (by decide) ?_
  refine lv_icmp_ne (tgt := 25) hx hb ddX2_copyFrom_9 (by decide) (fun c1 => ?_) (fun c1 => ?_)
  · replace h := h.1 c1
    exact k_vret hx hb hr hlocks hK hS h ddX2_copyFrom_25
  · replace h := h.2 c1
    refine lv_aload_n hx hb ddX2_copyFrom_12 rfl (lv_at hl 1 rfl) ?_
    refine lv_iconst (v := (0 : Int32)) hx hb ddX2_copyFrom_13 (by decide) ?_
    refine lv_aload_n hx hb ddX2_copyFrom_14 rfl (lv_at hl 0 rfl) ?_
    refine get_1_0 hx hb hown ht hK hS lk38 ddX2_copyFrom_15 ?_
    refine lv_iconst (v := (0 : Int32)) hx hb ddX2_copyFrom_18 (by decide) ?_
    refine lv_sipush (v := (179 : Int32)) hx hb ddX2_copyFrom_19 (by decide) ?_
    refine k_copy (rest := []) hx hb (hml.trans hl.1.symm) hown ht lk392 hK hS 11 2 rfl rfl (Nat.le_of_ble_eq_true rfl) (by decide +kernel) ddX2_copyFrom_22 (fun _ => rfl) (fun H locs hS => ?_)
    obtain ⟨σ2, eσ2⟩ : ∃ y : Mem, y = (cp σ 11 2) := ⟨_, rfl⟩
    rw [← eσ2] at hS
    replace h := h σ2 eσ2
    exact k_vret hx hb hr hlocks hK hS h ddX2_copyFrom_25

set_option maxHeartbeats 4000000 in
set_option maxRecDepth 100000 in
theorem c_X2_copyFrom_12 (l : Launch) (X : GX) {σ : Mem} {K : Mem → Prop} (h : wp_X2_copyFrom_12 σ K) : MV l X yX2_copyFrom cX2_copyFrom 2 ((Option.none : Option Jvm.ClassFile.FieldType)) ({ frames := 1, cells := 0, slots := 0, locals := 80 } : Room) [.ref (ga X 1), .ref (ga X 12)] σ K := by
  refine ent_met (QQ := fun A => va_Qv K (BW X A) A) (by decide) (Nat.le_of_ble_eq_true rfl) ?_
  intro p e s m args below meth c A ls hx hb hr hlocks hml hown ht hK hZ hA hS hl
  have hown : s.vm.findClass "GuardRoster$Roster" = some m.cls := hown
  have hl : lv_has ls 2 [(0, .ref (ga X 1)), (1, .ref (ga X 12))] := hl
  unfold wp_X2_copyFrom_12 at h
  refine lv_aload_n hx hb ddX2_copyFrom_0 rfl (lv_at hl 1 rfl) ?_
  refine lv_ifnull hx hb ddX2_copyFrom_1 ?_
  refine lv_aload_n hx hb ddX2_copyFrom_4 rfl (lv_at hl 1 rfl) ?_
  refine aln_12 hx hb hK hS ddX2_copyFrom_5 ?_
  refine lv_sipush (v := (179 : Int32)) hx hb ddX2_copyFrom_6 (by decide) ?_
  refine lv_icmp_ne (tgt := 25) hx hb ddX2_copyFrom_9 (by decide) (fun c1 => ?_) (fun c1 => ?_)
  · replace h := h.1 c1
    exact k_vret hx hb hr hlocks hK hS h ddX2_copyFrom_25
  · replace h := h.2 c1
    refine lv_aload_n hx hb ddX2_copyFrom_12 rfl (lv_at hl 1 rfl) ?_
    refine lv_iconst (v := (0 : Int32)) hx hb ddX2_copyFrom_13 (by decide) ?_
    refine lv_aload_n hx hb ddX2_copyFrom_14 rfl (lv_at hl 0 rfl) ?_
    refine get_1_0 hx hb hown ht hK hS lk38 ddX2_copyFrom_15 ?_
    refine lv_iconst (v := (0 : Int32)) hx hb ddX2_copyFrom_18 (by decide) ?_
    refine lv_sipush (v := (179 : Int32)) hx hb ddX2_copyFrom_19 (by decide) ?_
    refine k_copy (rest := []) hx hb (hml.trans hl.1.symm) hown ht lk392 hK hS 12 2 rfl rfl (Nat.le_of_ble_eq_true rfl) (by decide +kernel) ddX2_copyFrom_22 (fun _ => rfl) (fun H locs hS => ?_)
    obtain ⟨σ2, eσ2⟩ : ∃ y : Mem, y = (cp σ 12 2) := ⟨_, rfl⟩
    rw [← eσ2] at hS
    replace h := h σ2 eσ2
    exact k_vret hx hb hr hlocks hK hS h ddX2_copyFrom_25

set_option maxHeartbeats 4000000 in
set_option maxRecDepth 100000 in
theorem c_X2_copyFrom_13 (l : Launch) (X : GX) {σ : Mem} {K : Mem → Prop} (h : wp_X2_copyFrom_13 σ K) : MV l X yX2_copyFrom cX2_copyFrom 2 ((Option.none : Option Jvm.ClassFile.FieldType)) ({ frames := 1, cells := 0, slots := 0, locals := 80 } : Room) [.ref (ga X 1), .ref (ga X 13)] σ K := by
  refine ent_met (QQ := fun A => va_Qv K (BW X A) A) (by decide) (Nat.le_of_ble_eq_true rfl) ?_
  intro p e s m args below meth c A ls hx hb hr hlocks hml hown ht hK hZ hA hS hl
  have hown : s.vm.findClass "GuardRoster$Roster" = some m.cls := hown
  have hl : lv_has ls 2 [(0, .ref (ga X 1)), (1, .ref (ga X 13))] := hl
  unfold wp_X2_copyFrom_13 at h
  refine lv_aload_n hx hb ddX2_copyFrom_0 rfl (lv_at hl 1 rfl) ?_
  refine lv_ifnull hx hb ddX2_copyFrom_1 ?_
  refine lv_aload_n hx hb ddX2_copyFrom_4 rfl (lv_at hl 1 rfl) ?_
  refine aln_13 hx hb hK hS ddX2_copyFrom_5 ?_
  refine lv_sipush (v := (179 : Int32)) hx hb ddX2_copyFrom_6 (by decide) ?_
  refine lv_icmp_ne (tgt := 25) hx hb ddX2_copyFrom_9 (by decide) (fun c1 => ?_) (fun c1 => ?_)
  · replace h := h.1 c1
    exact k_vret hx hb hr hlocks hK hS h ddX2_copyFrom_25
  · replace h := h.2 c1
    refine lv_aload_n hx hb ddX2_copyFrom_12 rfl (lv_at hl 1 rfl) ?_
    refine lv_iconst (v := (0 : Int32)) hx hb ddX2_copyFrom_13 (by decide) ?_
    refine lv_aload_n hx hb ddX2_copyFrom_14 rfl (lv_at hl 0 rfl) ?_
    refine get_1_0 hx hb hown ht hK hS lk38 ddX2_copyFrom_15 ?_
    refine lv_iconst (v := (0 : Int32)) hx hb ddX2_copyFrom_18 (by decide) ?_
    refine lv_sipush (v := (179 : Int32)) hx hb ddX2_copyFrom_19 (by decide) ?_
    refine k_copy (rest := []) hx hb (hml.trans hl.1.symm) hown ht lk392 hK hS 13 2 rfl rfl (Nat.le_of_ble_eq_true rfl) (by decide +kernel) ddX2_copyFrom_22 (fun _ => rfl) (fun H locs hS => ?_)
    obtain ⟨σ2, eσ2⟩ : ∃ y : Mem, y = (cp σ 13 2) := ⟨_, rfl⟩
    rw [← eσ2] at hS
    replace h := h σ2 eσ2
    exact k_vret hx hb hr hlocks hK hS h ddX2_copyFrom_25

set_option maxHeartbeats 4000000 in
set_option maxRecDepth 100000 in
theorem c_X2_copyFrom_14 (l : Launch) (X : GX) {σ : Mem} {K : Mem → Prop} (h : wp_X2_copyFrom_14 σ K) : MV l X yX2_copyFrom cX2_copyFrom 2 ((Option.none : Option Jvm.ClassFile.FieldType)) ({ frames := 1, cells := 0, slots := 0, locals := 80 } : Room) [.ref (ga X 1), .ref (ga X 14)] σ K := by
  refine ent_met (QQ := fun A => va_Qv K (BW X A) A) (by decide) (Nat.le_of_ble_eq_true rfl) ?_
  intro p e s m args below meth c A ls hx hb hr hlocks hml hown ht hK hZ hA hS hl
  have hown : s.vm.findClass "GuardRoster$Roster" = some m.cls := hown
  have hl : lv_has ls 2 [(0, .ref (ga X 1)), (1, .ref (ga X 14))] := hl
  unfold wp_X2_copyFrom_14 at h
  refine lv_aload_n hx hb ddX2_copyFrom_0 rfl (lv_at hl 1 rfl) ?_
  refine lv_ifnull hx hb ddX2_copyFrom_1 ?_
  refine lv_aload_n hx hb ddX2_copyFrom_4 rfl (lv_at hl 1 rfl) ?_
  refine aln_14 hx hb hK hS ddX2_copyFrom_5 ?_
  refine lv_sipush (v := (179 : Int32)) hx hb ddX2_copyFrom_6 (by decide) ?_
  refine lv_icmp_ne (tgt := 25) hx hb ddX2_copyFrom_9 (by decide) (fun c1 => ?_) (fun c1 => ?_)
  · replace h := h.1 c1
    exact k_vret hx hb hr hlocks hK hS h ddX2_copyFrom_25
  · replace h := h.2 c1
    refine lv_aload_n hx hb ddX2_copyFrom_12 rfl (lv_at hl 1 rfl) ?_
    refine lv_iconst (v := (0 : Int32)) hx hb ddX2_copyFrom_13 (by decide) ?_
    refine lv_aload_n hx hb ddX2_copyFrom_14 rfl (lv_at hl 0 rfl) ?_
    refine get_1_0 hx hb hown ht hK hS lk38 ddX2_copyFrom_15 ?_
    refine lv_iconst (v := (0 : Int32)) hx hb ddX2_copyFrom_18 (by decide) ?_
    refine lv_sipush (v := (179 : Int32)) hx hb ddX2_copyFrom_19 (by decide) ?_
    refine k_copy (rest := []) hx hb (hml.trans hl.1.symm) hown ht lk392 hK hS 14 2 rfl rfl (Nat.le_of_ble_eq_true rfl) (by decide +kernel) ddX2_copyFrom_22 (fun _ => rfl) (fun H locs hS => ?_)
    obtain ⟨σ2, eσ2⟩ : ∃ y : Mem, y = (cp σ 14 2) := ⟨_, rfl⟩
    rw [← eσ2] at hS
    replace h := h σ2 eσ2
    exact k_vret hx hb hr hlocks hK hS h ddX2_copyFrom_25

set_option maxHeartbeats 4000000 in
set_option maxRecDepth 100000 in
theorem c_X2_copyFrom_23 (l : Launch) (X : GX) {σ : Mem} {K : Mem → Prop} (h : wp_X2_copyFrom_23 σ K) : MV l X yX2_copyFrom cX2_copyFrom 2 ((Option.none : Option Jvm.ClassFile.FieldType)) ({ frames := 1, cells := 0, slots := 0, locals := 80 } : Room) [.ref (ga X 1), .ref (ga X 23)] σ K := by
  refine ent_met (QQ := fun A => va_Qv K (BW X A) A) (by decide) (Nat.le_of_ble_eq_true rfl) ?_
  intro p e s m args below meth c A ls hx hb hr hlocks hml hown ht hK hZ hA hS hl
  have hown : s.vm.findClass "GuardRoster$Roster" = some m.cls := hown
  have hl : lv_has ls 2 [(0, .ref (ga X 1)), (1, .ref (ga X 23))] := hl
  unfold wp_X2_copyFrom_23 at h
  refine lv_aload_n hx hb ddX2_copyFrom_0 rfl (lv_at hl 1 rfl) ?_
  refine lv_ifnull hx hb ddX2_copyFrom_1 ?_
  refine lv_aload_n hx hb ddX2_copyFrom_4 rfl (lv_at hl 1 rfl) ?_
  refine aln_23 hx hb hK hS ddX2_copyFrom_5 ?_
  refine lv_sipush (v := (179 : Int32)) hx hb ddX2_copyFrom_6 (by decide) ?_
  refine lv_icmp_ne (tgt := 25) hx hb ddX2_copyFrom_9 (by decide) (fun c1 => ?_) (fun c1 => ?_)
  · replace h := h.1 c1
    exact k_vret hx hb hr hlocks hK hS h ddX2_copyFrom_25
  · replace h := h.2 c1
    refine lv_aload_n hx hb ddX2_copyFrom_12 rfl (lv_at hl 1 rfl) ?_
    refine lv_iconst (v := (0 : Int32)) hx hb ddX2_copyFrom_13 (by decide) ?_
    refine lv_aload_n hx hb ddX2_copyFrom_14 rfl (lv_at hl 0 rfl) ?_
    refine get_1_0 hx hb hown ht hK hS lk38 ddX2_copyFrom_15 ?_
    refine lv_iconst (v := (0 : Int32)) hx hb ddX2_copyFrom_18 (by decide) ?_
    refine lv_sipush (v := (179 : Int32)) hx hb ddX2_copyFrom_19 (by decide) ?_
    refine k_copy (rest := []) hx hb (hml.trans hl.1.symm) hown ht lk392 hK hS 23 2 rfl rfl (Nat.le_of_ble_eq_true rfl) (by decide +kernel) ddX2_copyFrom_22 (fun _ => rfl) (fun H locs hS => ?_)
    obtain ⟨σ2, eσ2⟩ : ∃ y : Mem, y = (cp σ 23 2) := ⟨_, rfl⟩
    rw [← eσ2] at hS
    replace h := h σ2 eσ2
    exact k_vret hx hb hr hlocks hK hS h ddX2_copyFrom_25
