set_option maxHeartbeats 4000000 in
set_option maxRecDepth 100000 in
theorem c_X3_finds (l : Launch) (X : GX) {RR : Int32 → Int32 → Mem → (Int32 → Mem → Prop) → Prop} {rm : Room} (hrc : rm.cells = 0 ∧ rm.slots = 0) (hRec : ∀ {x1 x2 : Int32} {σ : Mem} {K : Int32 → Mem → Prop}, RR x1 x2 σ K → MI l X yX3_finds cX3_finds 6 ((Option.some Jvm.ClassFile.FieldType.boolean)) rm [.ref (ga X 15), .int x1, .int x2] σ K) {x1 x2 : Int32} {σ : Mem} {K : Int32 → Mem → Prop} (h : wp_X3_finds RR x1 x2 σ K) : MI l X yX3_finds cX3_finds 6 ((Option.some Jvm.ClassFile.FieldType.boolean)) ({ frames := rm.frames + 1, cells := 0, slots := 0, locals := 8 + (6 + 11) + rm.locals } : Room) [.ref (ga X 15), .int x1, .int x2] σ K := by
  refine ent_met (QQ := fun A => va_Qi K (BW X A) A) (by decide) (Nat.le_of_ble_eq_true rfl) ?_
  intro p e s m args below meth c A ls hx hb hr hlocks hml hown ht hK hZ hA hS hl
  have hown : s.vm.findClass "GuardRoster$SlotPlan" = some m.cls := hown
  have hl : lv_has ls 6 [(0, .ref (ga X 15)), (1, .int x1), (2, .int x2)] := hl
  have hJ89 : ∀ (x1 x3 : Int32) (σ : Mem) (H : Heap) (locs : List Loc) (ls : Array Slot), WS X A s.heap σ H locs → lv_has ls 6 [(0, .ref (ga X 15)), (1, .int x1), (3, .int x3)] → wpJ_X3_finds_89 RR K x1 x3 σ → WI X K p l e ({ frames := rm.frames + 1, cells := 0, slots := 0, locals := 8 + (6 + 11) + rm.locals } : Room) s m args below meth c A H locs (F0 m 89 ls []) := by
    intro x1 x3 σ H locs ls hS hl h
    unfold wpJ_X3_finds_89 at h
    refine lv_aload_n hx hb ddX3_finds_89 rfl (lv_at hl 0 rfl) ?_
    refine get_15_1 hx hb hown ht hK hS lk71 ddX3_finds_90 ?_
    refine lv_iload_n hx hb ddX3_finds_93 rfl (lv_at hl 2 rfl) ?_
    refine lv_iload_n hx hb ddX3_finds_94 rfl (lv_at hl 1 rfl) ?_
    refine lv_iconst (v := (1 : Int32)) hx hb ddX3_finds_95 (by decide) ?_
    refine lv_iadd hx hb ddX3_finds_96 ?_
    refine ast_17 hx hb hK hS h.1 ddX3_finds_97 (fun H locs hS => ?_)
    replace h := h.2
    obtain ⟨σ12, eσ12⟩ : ∃ y : Mem, y = (st σ 17 x3.toNatClampNeg (x1 + (1 : Int32))) := ⟨_, rfl⟩
    rw [← eσ12] at hS
    replace h := h σ12 eσ12
    refine lv_iconst (v := (1 : Int32)) hx hb ddX3_finds_98 (by decide) ?_
    exact k_zret hx hb hr hlocks hK hS rfl h ddX3_finds_99
  have hL18 : ∀ (n : Nat) (x1 x2 x3 : Int32) (σ : Mem) (H : Heap) (locs : List Loc) (ls : Array Slot), WS X A s.heap σ H locs → lv_has ls 6 [(0, .ref (ga X 15)), (1, .int x1), (2, .int x2), (3, .int x3)] → wlp (wpF_X3_finds_18 RR K) n (x1, x2, x3, σ) → WI X K p l e ({ frames := rm.frames + 1, cells := 0, slots := 0, locals := 8 + (6 + 11) + rm.locals } : Room) s m args below meth c A H locs (F0 m 18 ls []) := by
    intro n18
    induction n18 with
    | zero => intro x1 x2 x3 σ H locs ls hS hl h; exact h.elim
    | succ n18 ih18 =>
      have hJ100 : ∀ (x1 x2 x3 : Int32) (σ : Mem) (H : Heap) (locs : List Loc) (ls : Array Slot), WS X A s.heap σ H locs → lv_has ls 6 [(0, .ref (ga X 15)), (1, .int x1), (2, .int x2), (3, .int x3)] → wpJ_X3_finds_100 RR K (wlp (wpF_X3_finds_18 RR K) n18) x1 x2 x3 σ → WI X K p l e ({ frames := rm.frames + 1, cells := 0, slots := 0, locals := 8 + (6 + 11) + rm.locals } : Room) s m args below meth c A H locs (F0 m 100 ls []) := by
        intro x1 x2 x3 σ H locs ls hS hl h
        unfold wpJ_X3_finds_100 at h
        obtain ⟨v7, ev7⟩ : ∃ y : Int32, y = x3 + (1 : Int32) := ⟨_, rfl⟩
        replace h := h v7 ev7
        refine lv_iinc (v := v7) (lv' := [(3, .int v7), (0, .ref (ga X 15)), (1, .int x1), (2, .int x2)]) hx hb ddX3_finds_100 hl (k := 3) rfl (by rw [ev7]; rfl) (by decide) rfl (fun ls hl => ?_)
        refine lv_goto (tgt := 18) hx hb ddX3_finds_103 (by decide) ?_
        exact ih18 _ _ _ _ _ _ _ hS (lv_sub hl [1, 2, 3, 0] rfl) h
      intro x1 x2 x3 σ H locs ls hS hl h
      replace h : wpS_X3_finds_18 RR K (wlp (wpF_X3_finds_18 RR K) n18) x1 x2 x3 σ := h
      unfold wpS_X3_finds_18 at h
      refine lv_iload_n hx hb ddX3_finds_18 rfl (lv_at hl 3 rfl) ?_
      refine lv_bipush (v := (10 : Int32)) hx hb ddX3_finds_19 (by decide) ?_
      refine lv_icmp_ge (tgt := 106) hx hb ddX3_finds_21 (by decide) (fun c4 => ?_) (fun c4 => ?_)
      · replace h := h.1 c4
        refine lv_iconst (v := (0 : Int32)) hx hb ddX3_finds_106 (by decide) ?_
        exact k_zret hx hb hr hlocks hK hS rfl h ddX3_finds_107
      · replace h := h.2 c4
        refine lv_iconst (v := (1 : Int32)) hx hb ddX3_finds_24 (by decide) ?_
        refine lv_iload_n hx hb ddX3_finds_25 rfl (lv_at hl 3 rfl) ?_
        refine lv_ishl hx hb ddX3_finds_26 ?_
        refine lv_topi (fun v5 ev5 => ?_)
        replace h := h v5 ev5
        refine lv_istore (lv' := [(4, .int v5), (0, .ref (ga X 15)), (1, .int x1), (2, .int x2), (3, .int x3)]) hx hb ddX3_finds_27 hl (by decide) rfl (fun ls hl => ?_)
        refine lv_aload_n hx hb ddX3_finds_29 rfl (lv_at hl 1 rfl) ?_
        refine get_15_0 hx hb hown ht hK hS lk70 ddX3_finds_30 ?_
        refine lv_iload_n hx hb ddX3_finds_33 rfl (lv_at hl 2 rfl) ?_
        refine ald_16 hx hb hK hS h.1 ddX3_finds_34 ?_
        replace h := h.2
        refine lv_iload hx hb ddX3_finds_35 (lv_at hl 0 rfl) ?_
        refine lv_iand hx hb ddX3_finds_37 ?_
        refine lv_if_eq (tgt := 100) hx hb ddX3_finds_38 (by decide) (fun c6 => ?_) (fun c6 => ?_)
        · replace h := h.1 c6
          exact hJ100 _ _ _ _ _ _ _ hS (lv_sub hl [1, 2, 3, 4] rfl) h
        · replace h := h.2 c6
          refine lv_aload_n hx hb ddX3_finds_41 rfl (lv_at hl 1 rfl) ?_
          refine get_15_2 hx hb hown ht hK hS lk72 ddX3_finds_42 ?_
          refine lv_iload hx hb ddX3_finds_45 (lv_at hl 0 rfl) ?_
          refine lv_iand hx hb ddX3_finds_47 ?_
          refine lv_if_ne (tgt := 100) hx hb ddX3_finds_48 (by decide) (fun c8 => ?_) (fun c8 => ?_)
          · replace h := h.1 c8
            exact hJ100 _ _ _ _ _ _ _ hS (lv_sub hl [1, 2, 3, 4] rfl) h
          · replace h := h.2 c8
            refine lv_aload_n hx hb ddX3_finds_51 rfl (lv_at hl 1 rfl) ?_
            refine lv_dup hx hb ddX3_finds_52 rfl ?_
            refine get_15_2 hx hb hown ht hK hS lk72 ddX3_finds_53 ?_
            refine lv_iload hx hb ddX3_finds_56 (lv_at hl 0 rfl) ?_
            refine lv_ior hx hb ddX3_finds_58 ?_
            refine put_15_2 hx hb hown ht hK hS lk72 ddX3_finds_59 (fun H locs hS => ?_)
            obtain ⟨σ9, eσ9⟩ : ∃ y : Mem, y = (st σ 15 2 ((σ 15 2) ||| v5)) := ⟨_, rfl⟩
            rw [← eσ9] at hS
            replace h := h σ9 eσ9
            refine lv_aload_n hx hb ddX3_finds_62 rfl (lv_at hl 1 rfl) ?_
            refine get_15_1 hx hb hown ht hK hS lk71 ddX3_finds_63 ?_
            refine lv_iload_n hx hb ddX3_finds_66 rfl (lv_at hl 4 rfl) ?_
            refine ald_17 hx hb hK hS h.1 ddX3_finds_67 ?_
            replace h := h.2
            refine lv_topi (fun v10 ev10 => ?_)
            replace h := h v10 ev10
            refine lv_istore (lv' := [(5, .int v10), (4, .int v5), (0, .ref (ga X 15)), (1, .int x1), (2, .int x2), (3, .int x3)]) hx hb ddX3_finds_68 hl (by decide) rfl (fun ls hl => ?_)
            refine lv_iload hx hb ddX3_finds_70 (lv_at hl 0 rfl) ?_
            refine lv_if_eq (tgt := 89) hx hb ddX3_finds_72 (by decide) (fun c11 => ?_) (fun c11 => ?_)
            · replace h := h.1 c11
              exact hJ89 _ _ _ _ _ _ hS (lv_sub hl [2, 3, 5] rfl) h
            · replace h := h.2 c11
              refine lv_aload_n hx hb ddX3_finds_75 rfl (lv_at hl 2 rfl) ?_
              refine lv_iload hx hb ddX3_finds_76 (lv_at hl 0 rfl) ?_
              refine lv_iconst (v := (1 : Int32)) hx hb ddX3_finds_78 (by decide) ?_
              refine lv_isub hx hb ddX3_finds_79 ?_
              refine lv_iload_n hx hb ddX3_finds_80 rfl (lv_at hl 4 rfl) ?_
              refine lv_iconst (v := (1 : Int32)) hx hb ddX3_finds_81 (by decide) ?_
              refine lv_iadd hx hb ddX3_finds_82 ?_
              refine k_SI (As := [.ref (ga X 15), .int (v10 - (1 : Int32)), .int (x2 + (1 : Int32))]) (rest := []) (hRec h) mf_X3_finds lk349 hx hb hml hown ht hK hZ hS hA hrc ⟨Nat.le_refl _, Nat.le_refl _⟩ rfl hl.1 rfl (Nat.le_of_ble_eq_true rfl) ⟨Nat.le_of_ble_eq_true rfl, Nat.le_of_ble_eq_true rfl⟩ ddX3_finds_83 (fun r14 σ13 H locs hS h => ?_)
              refine lv_if_eq (tgt := 100) hx hb ddX3_finds_86 (by decide) (fun c15 => ?_) (fun c15 => ?_)
              · replace h := h.1 c15
                exact hJ100 _ _ _ _ _ _ _ hS (lv_sub hl [2, 3, 4, 5] rfl) h
              · replace h := h.2 c15
                exact hJ89 _ _ _ _ _ _ hS (lv_sub hl [2, 3, 5] rfl) h
  unfold wp_X3_finds at h
  refine lv_iload_n hx hb ddX3_finds_0 rfl (lv_at hl 2 rfl) ?_
  refine lv_iconst (v := (5 : Int32)) hx hb ddX3_finds_1 (by decide) ?_
  refine lv_icmp_ge (tgt := 14) hx hb ddX3_finds_2 (by decide) (fun c1 => ?_) (fun c1 => ?_)
  · replace h := h.1 c1
    refine lv_iconst (v := (0 : Int32)) hx hb ddX3_finds_14 (by decide) ?_
    exact k_zret hx hb hr hlocks hK hS rfl h ddX3_finds_15
  · replace h := h.2 c1
    refine lv_iload_n hx hb ddX3_finds_5 rfl (lv_at hl 1 rfl) ?_
    refine lv_if_lt (tgt := 14) hx hb ddX3_finds_6 (by decide) (fun c2 => ?_) (fun c2 => ?_)
    · replace h := h.1 c2
      refine lv_iconst (v := (0 : Int32)) hx hb ddX3_finds_14 (by decide) ?_
      exact k_zret hx hb hr hlocks hK hS rfl h ddX3_finds_15
    · replace h := h.2 c2
      refine lv_iload_n hx hb ddX3_finds_9 rfl (lv_at hl 1 rfl) ?_
      refine lv_iconst (v := (5 : Int32)) hx hb ddX3_finds_10 (by decide) ?_
      refine lv_icmp_lt (tgt := 16) hx hb ddX3_finds_11 (by decide) (fun c3 => ?_) (fun c3 => ?_)
      · replace h := h.1 c3
        refine lv_iconst (v := (0 : Int32)) hx hb ddX3_finds_16 (by decide) ?_
        refine lv_istore_n (lv' := [(3, .int (0 : Int32)), (0, .ref (ga X 15)), (1, .int x1), (2, .int x2)]) hx hb ddX3_finds_17 rfl hl (by decide) rfl (fun ls hl => ?_)
        obtain ⟨n, h⟩ := h
        exact hL18 n _ _ _ _ _ _ _ hS (lv_sub hl [1, 2, 3, 0] rfl) h
      · replace h := h.2 c3
        refine lv_iconst (v := (0 : Int32)) hx hb ddX3_finds_14 (by decide) ?_
        exact k_zret hx hb hr hlocks hK hS rfl h ddX3_finds_15

def rmN : Nat → Room
  | 0 => { frames := 0, cells := 0, slots := 0, locals := 0 }
  | n + 1 => { frames := (rmN n).frames + 1, cells := 0, slots := 0, locals := 8 + (6 + 11) + (rmN n).locals }
theorem rmN_0 : ∀ n, (rmN n).cells = 0 ∧ (rmN n).slots = 0
  | 0 => ⟨rfl, rfl⟩
  | _ + 1 => ⟨rfl, rfl⟩
theorem c_X3_findsN (l : Launch) (X : GX) : ∀ (n : Nat) {x1 x2 : Int32} {σ : Mem} {K : Int32 → Mem → Prop}, wp_X3_findsN n x1 x2 σ K → MI l X yX3_finds cX3_finds 6 (some .boolean) (rmN n) [.ref (ga X 15), .int x1, .int x2] σ K
  | 0, _, _, _, _, h => h.elim
  | n + 1, _, _, _, _, h => c_X3_finds l X (rmN_0 n) (fun h => c_X3_findsN l X n h) h
theorem c_X3_finds6 (l : Launch) (X : GX) {x1 x2 : Int32} {σ : Mem} {K : Int32 → Mem → Prop} (h : wp_X3_finds6 x1 x2 σ K) : MI l X yX3_finds cX3_finds 6 (some .boolean) { frames := 6, cells := 0, slots := 0, locals := 150 } [.ref (ga X 15), .int x1, .int x2] σ K := c_X3_findsN l X 6 h
