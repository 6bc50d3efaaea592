set_option maxHeartbeats 4000000 in
set_option maxRecDepth 100000 in
theorem cS_coder (l : Launch) (X : GX) {i : Nat} (hi : i < 16) {σ : Mem} {K : Int32 → Mem → Prop} (h : K 0 σ) : MI l X yJ0_coder_7d493 cJ0_coder_7d493 1 (some .byte) ({ frames := 0, cells := 0, slots := 0, locals := 0 } : Room) [.ref (gK X i)] σ K := by
  refine ent_met (QQ := fun A => va_Qi K (BW X A) A) (by decide) (Nat.le_of_ble_eq_true rfl) ?_
  intro p e s m args below meth c A ls hx hb hr hlocks hml hown ht hK hZ hA hS hl
  have hown : s.vm.findClass "java/lang/String" = some m.cls := hown
  have hl : lv_has ls 1 [(0, .ref (gK X i))] := hl
  refine va_gets hx hb hZ.2.2.1 hS.2.2 hown (ht _ lk980) (fun _ h9 => h9) ddJ0_coder_7d493_0 ?_
  refine lv_if_eq (tgt := 13) hx hb ddJ0_coder_7d493_3 (by decide) (fun c1 => absurd c1 (by decide)) (fun c1 => ?_)
  refine lv_aload_n hx hb ddJ0_coder_7d493_6 rfl (lv_at hl 0 rfl) ?_
  refine vk_getf hx hb (hZ.1.1 i hi).2.1 hS.2.2 hown (ht _ lk1570) (fun _ h9 => h9) ddJ0_coder_7d493_7 ?_
  refine lv_goto (tgt := 14) hx hb ddJ0_coder_7d493_10 (by decide) ?_
  exact k_zret hx hb hr hlocks hK hS rfl h ddJ0_coder_7d493_14

set_option maxHeartbeats 4000000 in
set_option maxRecDepth 100000 in
theorem cS_length (l : Launch) (X : GX) {i : Nat} (hi : i < 16) {σ : Mem} {K : Int32 → Mem → Prop} (h : K (nI (lenS.getD i 0)) σ) : MI l X yJ0_length_8abf5 cJ0_length_8abf5 1 (some .int) ({ frames := 1, cells := 0, slots := 0, locals := 20 } : Room) [.ref (gK X i)] σ K := by
  refine ent_met (QQ := fun A => va_Qi K (BW X A) A) (by decide) (Nat.le_of_ble_eq_true rfl) ?_
  intro p e s m args below meth c A ls hx hb hr hlocks hml hown ht hK hZ hA hS hl
  have hown : s.vm.findClass "java/lang/String" = some m.cls := hown
  have hl : lv_has ls 1 [(0, .ref (gK X i))] := hl
  refine lv_aload_n hx hb ddJ0_length_8abf5_0 rfl (lv_at hl 0 rfl) ?_
  refine vk_getf hx hb (hZ.1.1 i hi).2.2.1 hS.2.2 hown (ht _ lk1569) (fun _ h9 => h9) ddJ0_length_8abf5_1 ?_
  refine va_tlen hx hb (hZ.1.1 i hi).2.2.2 hS.2.2 (v := nI (lenS.getD i 0)) rfl ddJ0_length_8abf5_4 ?_
  refine lv_aload_n hx hb ddJ0_length_8abf5_5 rfl (lv_at hl 0 rfl) ?_
  refine k_RI (As := []) (rest := [.int (nI (lenS.getD i 0))]) (cS_coder l X hi (K := fun r s => r = 0 ∧ s = σ) ⟨rfl, rfl⟩) mf_J0_coder_7d493 lk976 hx hb hml hown ht hK hZ hS hA (vk_recv hZ.1 hi hS.2.2) ⟨rfl, rfl⟩ ⟨Nat.le_of_ble_eq_true rfl, Nat.le_of_ble_eq_true rfl⟩ rfl hl.1 rfl (Nat.le_of_ble_eq_true rfl) ⟨Nat.zero_le _, Nat.zero_le _⟩ ddJ0_length_8abf5_6 (fun r σ' H locs hS h9 => ?_)
  rw [h9.2] at hS
  rw [h9.1]
  refine lv_ishr hx hb ddJ0_length_8abf5_9 ?_
  rw [sb_shr0]
  exact k_iret hx hb hr hlocks hK hS h ddJ0_length_8abf5_10

set_option maxHeartbeats 4000000 in
set_option maxRecDepth 100000 in
theorem cS_isLatin1 (l : Launch) (X : GX) {i : Nat} (hi : i < 16) {σ : Mem} {K : Int32 → Mem → Prop} (h : K 1 σ) : MI l X yJ0_isLatin1_aae02 cJ0_isLatin1_aae02 1 (some .boolean) ({ frames := 0, cells := 0, slots := 0, locals := 0 } : Room) [.ref (gK X i)] σ K := by
  refine ent_met (QQ := fun A => va_Qi K (BW X A) A) (by decide) (Nat.le_of_ble_eq_true rfl) ?_
  intro p e s m args below meth c A ls hx hb hr hlocks hml hown ht hK hZ hA hS hl
  have hown : s.vm.findClass "java/lang/String" = some m.cls := hown
  have hl : lv_has ls 1 [(0, .ref (gK X i))] := hl
  refine va_gets hx hb hZ.2.2.1 hS.2.2 hown (ht _ lk980) (fun _ h9 => h9) ddJ0_isLatin1_aae02_0 ?_
  refine lv_if_eq (tgt := 17) hx hb ddJ0_isLatin1_aae02_3 (by decide) (fun c1 => absurd c1 (by decide)) (fun c1 => ?_)
  refine lv_aload_n hx hb ddJ0_isLatin1_aae02_6 rfl (lv_at hl 0 rfl) ?_
  refine vk_getf hx hb (hZ.1.1 i hi).2.1 hS.2.2 hown (ht _ lk1570) (fun _ h9 => h9) ddJ0_isLatin1_aae02_7 ?_
  refine lv_if_ne (tgt := 17) hx hb ddJ0_isLatin1_aae02_10 (by decide) (fun c1 => absurd rfl c1) (fun c1 => ?_)
  refine lv_iconst (v := 1) hx hb ddJ0_isLatin1_aae02_13 (by decide) ?_
  refine lv_goto (tgt := 18) hx hb ddJ0_isLatin1_aae02_14 (by decide) ?_
  exact k_zret hx hb hr hlocks hK hS rfl h ddJ0_isLatin1_aae02_18

set_option maxHeartbeats 4000000 in
set_option maxRecDepth 100000 in
theorem cS_checkIndexN (l : Launch) (X : GX) {x n : Int32} {σ : Mem} {K : Int32 → Mem → Prop} (h : ¬ x < 0 ∧ x < n ∧ K x σ) : MI l X yJ3_checkIndex_8e157 cJ3_checkIndex_8e157 3 (some .int) ({ frames := 0, cells := 0, slots := 0, locals := 0 } : Room) [.int x, .int n, .null] σ K := by
  refine ent_met (QQ := fun A => va_Qi K (BW X A) A) (by decide) (Nat.le_of_ble_eq_true rfl) ?_
  intro p e s m args below meth c A ls hx hb hr hlocks hml hown ht hK hZ hA hS hl
  have hown : s.vm.findClass "jdk/internal/util/Preconditions" = some m.cls := hown
  have hl : lv_has ls 3 [(0, .int x), (1, .int n), (2, .null)] := hl
  refine lv_iload_n hx hb ddJ3_checkIndex_8e157_0 rfl (lv_at hl 0 rfl) ?_
  refine lv_if_lt (tgt := 9) hx hb ddJ3_checkIndex_8e157_1 (by decide) (fun c1 => absurd c1 h.1) (fun c1 => ?_)
  refine lv_iload_n hx hb ddJ3_checkIndex_8e157_4 rfl (lv_at hl 0 rfl) ?_
  refine lv_iload_n hx hb ddJ3_checkIndex_8e157_5 rfl (lv_at hl 1 rfl) ?_
  refine lv_icmp_lt (tgt := 16) hx hb ddJ3_checkIndex_8e157_6 (by decide) (fun c1 => ?_) (fun c1 => absurd h.2.1 c1)
  refine lv_iload_n hx hb ddJ3_checkIndex_8e157_16 rfl (lv_at hl 0 rfl) ?_
  exact k_iret hx hb hr hlocks hK hS h.2.2 ddJ3_checkIndex_8e157_17

set_option maxHeartbeats 4000000 in
set_option maxRecDepth 100000 in
theorem cS_checkIndexR (l : Launch) (X : GX) {x n : Int32} {t : Nat} {σ : Mem} {K : Int32 → Mem → Prop} (h : ¬ x < 0 ∧ x < n ∧ K x σ) : MI l X yJ3_checkIndex_8e157 cJ3_checkIndex_8e157 3 (some .int) ({ frames := 0, cells := 0, slots := 0, locals := 0 } : Room) [.int x, .int n, .ref t] σ K := by
  refine ent_met (QQ := fun A => va_Qi K (BW X A) A) (by decide) (Nat.le_of_ble_eq_true rfl) ?_
  intro p e s m args below meth c A ls hx hb hr hlocks hml hown ht hK hZ hA hS hl
  have hown : s.vm.findClass "jdk/internal/util/Preconditions" = some m.cls := hown
  have hl : lv_has ls 3 [(0, .int x), (1, .int n), (2, .ref t)] := hl
  refine lv_iload_n hx hb ddJ3_checkIndex_8e157_0 rfl (lv_at hl 0 rfl) ?_
  refine lv_if_lt (tgt := 9) hx hb ddJ3_checkIndex_8e157_1 (by decide) (fun c1 => absurd c1 h.1) (fun c1 => ?_)
  refine lv_iload_n hx hb ddJ3_checkIndex_8e157_4 rfl (lv_at hl 0 rfl) ?_
  refine lv_iload_n hx hb ddJ3_checkIndex_8e157_5 rfl (lv_at hl 1 rfl) ?_
  refine lv_icmp_lt (tgt := 16) hx hb ddJ3_checkIndex_8e157_6 (by decide) (fun c1 => ?_) (fun c1 => absurd h.2.1 c1)
  refine lv_iload_n hx hb ddJ3_checkIndex_8e157_16 rfl (lv_at hl 0 rfl) ?_
  exact k_iret hx hb hr hlocks hK hS h.2.2 ddJ3_checkIndex_8e157_17

set_option maxHeartbeats 4000000 in
set_option maxRecDepth 100000 in
theorem cS_checkIndex (l : Launch) (X : GX) {x n : Int32} {σ : Mem} {K : Mem → Prop} (h : ¬ x < 0 ∧ x < n ∧ K σ) : MV l X yJ0_checkIndex_df160 cJ0_checkIndex_df160 2 none ({ frames := 1, cells := 0, slots := 0, locals := 22 } : Room) [.int x, .int n] σ K := by
  refine ent_met (QQ := fun A => va_Qv K (BW X A) A) (by decide) (Nat.le_of_ble_eq_true rfl) ?_
  intro p e s m args below meth c A ls hx hb hr hlocks hml hown ht hK hZ hA hS hl
  have hown : s.vm.findClass "java/lang/String" = some m.cls := hown
  have hl : lv_has ls 2 [(0, .int x), (1, .int n)] := hl
  refine lv_iload_n hx hb ddJ0_checkIndex_df160_0 rfl (lv_at hl 0 rfl) ?_
  refine lv_iload_n hx hb ddJ0_checkIndex_df160_1 rfl (lv_at hl 1 rfl) ?_
  rcases hZ.2.2.2.1 with hq | ⟨t, hq⟩
  ·
    refine va_gets hx hb hq hS.2.2 hown (ht _ lk996) (fun _ h9 => h9) ddJ0_checkIndex_df160_2 ?_
    refine k_SI (As := [.int x, .int n, .null]) (rest := []) (cS_checkIndexN l X (K := fun r s => s = σ) ⟨h.1, h.2.1, rfl⟩) mf_J3_checkIndex_8e157 lk998 hx hb hml hown ht hK hZ hS hA ⟨rfl, rfl⟩ ⟨Nat.le_of_ble_eq_true rfl, Nat.le_of_ble_eq_true rfl⟩ rfl hl.1 rfl (Nat.le_of_ble_eq_true rfl) ⟨Nat.zero_le _, Nat.zero_le _⟩ ddJ0_checkIndex_df160_5 (fun r σ' H locs hS h9 => ?_)
    rw [h9] at hS
    refine lv_pop hx hb ddJ0_checkIndex_df160_8 rfl ?_
    exact k_vret hx hb hr hlocks hK hS h.2.2 ddJ0_checkIndex_df160_9
  ·
    refine va_gets hx hb hq hS.2.2 hown (ht _ lk996) (fun _ h9 => h9) ddJ0_checkIndex_df160_2 ?_
    refine k_SI (As := [.int x, .int n, .ref t]) (rest := []) (cS_checkIndexR l X (K := fun r s => s = σ) ⟨h.1, h.2.1, rfl⟩) mf_J3_checkIndex_8e157 lk998 hx hb hml hown ht hK hZ hS hA ⟨rfl, rfl⟩ ⟨Nat.le_of_ble_eq_true rfl, Nat.le_of_ble_eq_true rfl⟩ rfl hl.1 rfl (Nat.le_of_ble_eq_true rfl) ⟨Nat.zero_le _, Nat.zero_le _⟩ ddJ0_checkIndex_df160_5 (fun r σ' H locs hS h9 => ?_)
    rw [h9] at hS
    refine lv_pop hx hb ddJ0_checkIndex_df160_8 rfl ?_
    exact k_vret hx hb hr hlocks hK hS h.2.2 ddJ0_checkIndex_df160_9

set_option maxHeartbeats 4000000 in
set_option maxRecDepth 100000 in
theorem cS_charAt1 (l : Launch) (X : GX) {i : Nat} (hi : i < 16) {x : Int32} {σ : Mem} {K : Int32 → Mem → Prop} (h : vp_in x (lenS.getD i 0) ∧ K (sch i x) σ) : MI l X yJ1_charAt_3b067 cJ1_charAt_3b067 2 (some .char) ({ frames := 2, cells := 0, slots := 0, locals := 43 } : Room) [.ref (gV X i), .int x] σ K := by
  refine ent_met (QQ := fun A => va_Qi K (BW X A) A) (by decide) (Nat.le_of_ble_eq_true rfl) ?_
  intro p e s m args below meth c A ls hx hb hr hlocks hml hown ht hK hZ hA hS hl
  have hown : s.vm.findClass "java/lang/StringLatin1" = some m.cls := hown
  have hl : lv_has ls 2 [(0, .ref (gV X i)), (1, .int x)] := hl
  obtain ⟨hv, h⟩ := h
  have hb31 : ∀ i, i < 16 → lenS.getD i 0 < 2 ^ 31 := by decide
  have h31 : lenS.getD i 0 < 2 ^ 31 := hb31 i hi
  obtain ⟨j, hj, rfl⟩ := vp_in_of hv h31
  refine lv_iload_n hx hb ddJ1_charAt_3b067_0 rfl (lv_at hl 1 rfl) ?_
  refine lv_aload_n hx hb ddJ1_charAt_3b067_1 rfl (lv_at hl 0 rfl) ?_
  refine va_tlen hx hb (hZ.1.1 i hi).2.2.2 hS.2.2 (v := nI (lenS.getD i 0)) rfl ddJ1_charAt_3b067_2 ?_
  refine k_SV (As := [.int (nI j), .int (nI (lenS.getD i 0))]) (rest := []) (cS_checkIndex l X (K := fun s => s = σ) ⟨nI_pos (by omega), nI_lt hj h31, rfl⟩) mf_J0_checkIndex_df160 lk993 hx hb hml hown ht hK hZ hS hA ⟨rfl, rfl⟩ ⟨Nat.le_of_ble_eq_true rfl, Nat.le_of_ble_eq_true rfl⟩ rfl hl.1 rfl (Nat.le_of_ble_eq_true rfl) ⟨Nat.zero_le _, Nat.zero_le _⟩ ddJ1_charAt_3b067_3 (fun σ' H locs hS h9 => ?_)
  rw [h9] at hS
  refine lv_aload_n hx hb ddJ1_charAt_3b067_6 rfl (lv_at hl 0 rfl) ?_
  refine lv_iload_n hx hb ddJ1_charAt_3b067_7 rfl (lv_at hl 1 rfl) ?_
  refine va_tb hx hb (hZ.1.1 i hi).2.2.2 hS.2.2 hv rfl ddJ1_charAt_3b067_8 ?_
  refine lv_sipush (v := 255) hx hb ddJ1_charAt_3b067_9 (by decide) ?_
  refine lv_iand hx hb ddJ1_charAt_3b067_12 ?_
  refine lv_i2c hx hb ddJ1_charAt_3b067_13 rfl ?_
  rw [sc_c2]
  exact k_zret hx hb hr hlocks hK hS (sc_nar _) h ddJ1_charAt_3b067_14

set_option maxHeartbeats 4000000 in
set_option maxRecDepth 100000 in
theorem cS_charAt (l : Launch) (X : GX) {i : Nat} (hi : i < 16) {x : Int32} {σ : Mem} {K : Int32 → Mem → Prop} (h : vp_in x (lenS.getD i 0) ∧ K (sch i x) σ) : MI l X yJ0_charAt_5068e cJ0_charAt_5068e 2 (some .char) ({ frames := 3, cells := 0, slots := 0, locals := 64 } : Room) [.ref (gK X i), .int x] σ K := by
  refine ent_met (QQ := fun A => va_Qi K (BW X A) A) (by decide) (Nat.le_of_ble_eq_true rfl) ?_
  intro p e s m args below meth c A ls hx hb hr hlocks hml hown ht hK hZ hA hS hl
  have hown : s.vm.findClass "java/lang/String" = some m.cls := hown
  have hl : lv_has ls 2 [(0, .ref (gK X i)), (1, .int x)] := hl
  refine lv_aload_n hx hb ddJ0_charAt_5068e_0 rfl (lv_at hl 0 rfl) ?_
  refine k_RI (As := []) (rest := []) (cS_isLatin1 l X hi (K := fun r s => r = 1 ∧ s = σ) ⟨rfl, rfl⟩) mf_J0_isLatin1_aae02 lk986 hx hb hml hown ht hK hZ hS hA (vk_recv hZ.1 hi hS.2.2) ⟨rfl, rfl⟩ ⟨Nat.le_of_ble_eq_true rfl, Nat.le_of_ble_eq_true rfl⟩ rfl hl.1 rfl (Nat.le_of_ble_eq_true rfl) ⟨Nat.zero_le _, Nat.zero_le _⟩ ddJ0_charAt_5068e_1 (fun r σ' H locs hS h9 => ?_)
  rw [h9.2] at hS
  rw [h9.1]
  refine lv_if_eq (tgt := 16) hx hb ddJ0_charAt_5068e_4 (by decide) (fun c1 => absurd c1 (by decide)) (fun c1 => ?_)
  refine lv_aload_n hx hb ddJ0_charAt_5068e_7 rfl (lv_at hl 0 rfl) ?_
  refine vk_getf hx hb (hZ.1.1 i hi).2.2.1 hS.2.2 hown (ht _ lk1569) (fun _ h9 => h9) ddJ0_charAt_5068e_8 ?_
  refine lv_iload_n hx hb ddJ0_charAt_5068e_11 rfl (lv_at hl 1 rfl) ?_
  refine k_SI (As := [.ref (gV X i), .int x]) (rest := []) (cS_charAt1 l X hi (K := fun r s => r = sch i x ∧ s = σ) ⟨h.1, rfl, rfl⟩) mf_J1_charAt_3b067 lk990 hx hb hml hown ht hK hZ hS hA ⟨rfl, rfl⟩ ⟨Nat.le_of_ble_eq_true rfl, Nat.le_of_ble_eq_true rfl⟩ rfl hl.1 rfl (Nat.le_of_ble_eq_true rfl) ⟨Nat.zero_le _, Nat.zero_le _⟩ ddJ0_charAt_5068e_12 (fun r σ'' H locs hS h9 => ?_)
  rw [h9.2] at hS
  rw [h9.1]
  exact k_zret hx hb hr hlocks hK hS (sc_nar _) h.2 ddJ0_charAt_5068e_15
