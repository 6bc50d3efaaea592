def R_law : String := "GuardRosterLaw"
def lw_P (b : Addr) (xs : List Int32) (args : Array Value) (s : State) : Prop := args = #[.ref b] ∧ s.IntsAt b xs ∧ xs.length ≤ 2560 ∧ (Jvm.Cond.and given_1 narrow_1).before args s = true
/-- what a walk over the start with the record d0 says of its end, said of the start itself -/
theorem lw_closed {s t : State} {o : Outcome} {d0 : Drawn} {L : List Loc} {k n : Nat} (hd0 : s.drawn.sameBut d0 lw_cs) (hv : ∃ v, o = .returned v) (hW : (s.setDrawn d0).WarmedH t.vm) (hs : (s.setDrawn d0).sameButNew ({ t with vm := s.vm } : State) L k n) : State.butDraws s t lw_cs (fun t1 => Framed s o t1 L k n) := by
  have h2 : t.drawn = d0 := congrArg State.drawn hs.1
  refine ⟨⟨hv, hW, State.sameButNew.setDrawn hs s.drawn⟩, ?_, by decide⟩
  rw [h2]
  exact hd0
def lw_Q (_ : Array Value) (s : State) (o : Outcome) (t : State) : Prop := o = .returned (some (.int 1)) ∧ State.butDraws s t lw_cs (fun t1 => Framed s o t1 [] 603072 7194730)
def lw_Z (below : List Frame) (a : Array Value) (s : State) : State → Prop := fun t => ∃ o, t.status = .running ∧ Ended t below o ∧ lw_Q a s o t
/-- the law's own end, with 1 on the stack, nothing written that was there before, its room as the claim has it; d0: the record of draws at this point (at the entry s.drawn: begin with 'refine W.base ?_' and 'have hd0 := Drawn.sameBut.refl s.drawn lw_cs') -/
theorem lw_ret {p : Program} {l : Launch} {e : Env} {s : State} {m : MethodId} {below : List Frame} {meth : Method} {c : Code} {b : Nat} {d0 : Drawn} (hd0 : s.drawn.sameBut d0 lw_cs) (hx : p.tables.exec = Jvm.exec) (hb : c.code = code) (hr : meth.sig.returnType = ret) (hlocks : meth.locks = false) {pc : Nat} {H : Heap} {ls : Array Slot} (hdg : decode code pc = .ok (.ireturn, 1)) : W p l e room_1 (s.setDrawn d0) m #[Value.ref b] below meth c H [] 603072 7194730 (lw_Z below #[Value.ref b] s) (F0 m pc ls [.int 1]) := by
  intro T hT X
  obtain ⟨fs, hret, hrun, hended, hW, hframe⟩ := X.leave (v := some (.int 1)) (hlocks := hlocks) (fun h => by rw [hr] at h; cases h)
  have hmeth' : T.vm.method? m = some meth := X.method'
  refine ⟨T.setFrames fs, ?_, .returned (some (.int 1)), hrun, hended, rfl, lw_closed hd0 ⟨_, rfl⟩ hW hframe⟩
  jvm_step X.here [X.here.top, hx, hb, hdg, hmeth', hr, ret, narrow_b1]
  (try refine ⟨rfl, ?_⟩); (try refine ⟨rfl, ?_⟩)
  first | (intro acts; rw [hret _ acts rfl rfl rfl]) | rw [hret _ _ rfl rfl rfl]
  exact Steps.refl _
/-- what holds at the law's entry: the machine, the code, the tables' words (any of lw_tbl by 'hts w (by decide +kernel)'), the script of L ints xs at the cell b, what the Statement gives of the start (any of its parts by flat_of_before) -/
def lw_At (p : Program) (s : State) (m : MethodId) (meth : Method) (c : Code) (b L : Nat) (xs : Nat → Int32) : Prop :=
  p.tables.exec = Jvm.exec ∧ c.code = code ∧ meth.sig.returnType = ret ∧ c.maxLocals = 9 ∧ s.vm.findClass R_law = some m.cls ∧ (∀ w ∈ lw_tbl, w.before #[Value.ref b] s = true) ∧ va_X b L xs s s.heap ∧ b < s.heap.size ∧ meth.locks = false ∧ (Jvm.Cond.and given_1 narrow_1).before #[Value.ref b] s = true
/-- one call of the law -/
def wplc (a0 a1 a2 a3 a4 : Int32) (σ : Mem) (B : Mem → Prop) : Prop :=
  (a0 &&& (63 : Int32) = (0 : Int32) → wplc_0 a1 a2 a3 a4 σ B) ∧ (a0 &&& (63 : Int32) = (1 : Int32) → wplc_1 a1 a2 a3 a4 σ B) ∧ (a0 &&& (63 : Int32) = (2 : Int32) → wplc_2 a1 a2 a3 a4 σ B) ∧ (a0 &&& (63 : Int32) = (3 : Int32) → wplc_3 a1 a2 a3 a4 σ B) ∧ (a0 &&& (63 : Int32) = (4 : Int32) → wplc_4 a1 a2 a3 a4 σ B) ∧ (a0 &&& (63 : Int32) = (5 : Int32) → wplc_5 a1 a2 a3 a4 σ B) ∧ (a0 &&& (63 : Int32) = (6 : Int32) → wplc_6 a1 a2 a3 a4 σ B) ∧ (a0 &&& (63 : Int32) = (7 : Int32) → wplc_7 a1 a2 a3 a4 σ B) ∧ (a0 &&& (63 : Int32) = (8 : Int32) → wplc_8 a1 a2 a3 a4 σ B) ∧ (a0 &&& (63 : Int32) = (9 : Int32) → wplc_9 a1 a2 a3 a4 σ B) ∧ (a0 &&& (63 : Int32) = (10 : Int32) → wplc_10 a1 a2 a3 a4 σ B) ∧ (a0 &&& (63 : Int32) = (11 : Int32) → wplc_11 a1 a2 a3 a4 σ B) ∧ (a0 &&& (63 : Int32) = (12 : Int32) → wplc_12 a1 a2 a3 a4 σ B) ∧ (a0 &&& (63 : Int32) = (13 : Int32) → wplc_13 a1 a2 a3 a4 σ B) ∧ (a0 &&& (63 : Int32) = (14 : Int32) → wplc_14 a1 a2 a3 a4 σ B) ∧ (a0 &&& (63 : Int32) = (15 : Int32) → wplc_15 a1 a2 a3 a4 σ B) ∧ (a0 &&& (63 : Int32) = (16 : Int32) → wplc_16 a1 a2 a3 a4 σ B) ∧ (a0 &&& (63 : Int32) = (17 : Int32) → wplc_17 a1 a2 a3 a4 σ B) ∧ (a0 &&& (63 : Int32) = (18 : Int32) → wplc_18 a1 a2 a3 a4 σ B) ∧ (a0 &&& (63 : Int32) = (19 : Int32) → wplc_19 a1 a2 a3 a4 σ B) ∧ (a0 &&& (63 : Int32) = (20 : Int32) → wplc_20 a1 a2 a3 a4 σ B) ∧ (a0 &&& (63 : Int32) = (21 : Int32) → wplc_21 a1 a2 a3 a4 σ B) ∧ (a0 &&& (63 : Int32) = (22 : Int32) → wplc_22 a1 a2 a3 a4 σ B) ∧ (a0 &&& (63 : Int32) = (23 : Int32) → wplc_23 a1 a2 a3 a4 σ B) ∧ (a0 &&& (63 : Int32) = (24 : Int32) → wplc_24 a1 a2 a3 a4 σ B) ∧ (a0 &&& (63 : Int32) = (25 : Int32) → wplc_25 a1 a2 a3 a4 σ B) ∧ (a0 &&& (63 : Int32) = (26 : Int32) → wplc_26 a1 a2 a3 a4 σ B) ∧ (a0 &&& (63 : Int32) = (27 : Int32) → wplc_27 a1 a2 a3 a4 σ B) ∧ (a0 &&& (63 : Int32) = (28 : Int32) → wplc_28 a1 a2 a3 a4 σ B) ∧ (a0 &&& (63 : Int32) = (29 : Int32) → wplc_29 a1 a2 a3 a4 σ B) ∧ (a0 &&& (63 : Int32) = (30 : Int32) → wplc_30 a1 a2 a3 a4 σ B) ∧ (a0 &&& (63 : Int32) = (31 : Int32) → wplc_31 a1 a2 a3 a4 σ B) ∧ (a0 &&& (63 : Int32) = (32 : Int32) → wplc_32 a1 a2 a3 a4 σ B) ∧ (a0 &&& (63 : Int32) = (33 : Int32) → wplc_33 a1 a2 a3 a4 σ B) ∧ (a0 &&& (63 : Int32) = (34 : Int32) → wplc_34 a1 a2 a3 a4 σ B) ∧ (a0 &&& (63 : Int32) = (35 : Int32) → wplc_35 a1 a2 a3 a4 σ B) ∧ (a0 &&& (63 : Int32) = (36 : Int32) → wplc_36 a1 a2 a3 a4 σ B) ∧ (a0 &&& (63 : Int32) = (37 : Int32) → wplc_37 a1 a2 a3 a4 σ B) ∧ (a0 &&& (63 : Int32) = (38 : Int32) → wplc_38 a1 a2 a3 a4 σ B) ∧ (a0 &&& (63 : Int32) = (39 : Int32) → wplc_39 a1 a2 a3 a4 σ B) ∧ (a0 &&& (63 : Int32) = (40 : Int32) → wplc_40 a1 a2 a3 a4 σ B) ∧ (a0 &&& (63 : Int32) = (41 : Int32) → wplc_41 a1 a2 a3 a4 σ B) ∧ (a0 &&& (63 : Int32) = (42 : Int32) → wplc_42 a1 a2 a3 a4 σ B) ∧ (a0 &&& (63 : Int32) = (43 : Int32) → wplc_43 a1 a2 a3 a4 σ B) ∧ (a0 &&& (63 : Int32) = (44 : Int32) → wplc_44 a1 a2 a3 a4 σ B) ∧ (a0 &&& (63 : Int32) = (45 : Int32) → wplc_45 a1 a2 a3 a4 σ B) ∧ (a0 &&& (63 : Int32) = (46 : Int32) → wplc_46 a1 a2 a3 a4 σ B) ∧ (a0 &&& (63 : Int32) = (47 : Int32) → wplc_47 a1 a2 a3 a4 σ B) ∧ (a0 &&& (63 : Int32) = (48 : Int32) → wplc_48 a1 a2 a3 a4 σ B) ∧ (¬ a0 &&& (63 : Int32) = (0 : Int32) → ¬ a0 &&& (63 : Int32) = (1 : Int32) → ¬ a0 &&& (63 : Int32) = (2 : Int32) → ¬ a0 &&& (63 : Int32) = (3 : Int32) → ¬ a0 &&& (63 : Int32) = (4 : Int32) → ¬ a0 &&& (63 : Int32) = (5 : Int32) → ¬ a0 &&& (63 : Int32) = (6 : Int32) → ¬ a0 &&& (63 : Int32) = (7 : Int32) → ¬ a0 &&& (63 : Int32) = (8 : Int32) → ¬ a0 &&& (63 : Int32) = (9 : Int32) → ¬ a0 &&& (63 : Int32) = (10 : Int32) → ¬ a0 &&& (63 : Int32) = (11 : Int32) → ¬ a0 &&& (63 : Int32) = (12 : Int32) → ¬ a0 &&& (63 : Int32) = (13 : Int32) → ¬ a0 &&& (63 : Int32) = (14 : Int32) → ¬ a0 &&& (63 : Int32) = (15 : Int32) → ¬ a0 &&& (63 : Int32) = (16 : Int32) → ¬ a0 &&& (63 : Int32) = (17 : Int32) → ¬ a0 &&& (63 : Int32) = (18 : Int32) → ¬ a0 &&& (63 : Int32) = (19 : Int32) → ¬ a0 &&& (63 : Int32) = (20 : Int32) → ¬ a0 &&& (63 : Int32) = (21 : Int32) → ¬ a0 &&& (63 : Int32) = (22 : Int32) → ¬ a0 &&& (63 : Int32) = (23 : Int32) → ¬ a0 &&& (63 : Int32) = (24 : Int32) → ¬ a0 &&& (63 : Int32) = (25 : Int32) → ¬ a0 &&& (63 : Int32) = (26 : Int32) → ¬ a0 &&& (63 : Int32) = (27 : Int32) → ¬ a0 &&& (63 : Int32) = (28 : Int32) → ¬ a0 &&& (63 : Int32) = (29 : Int32) → ¬ a0 &&& (63 : Int32) = (30 : Int32) → ¬ a0 &&& (63 : Int32) = (31 : Int32) → ¬ a0 &&& (63 : Int32) = (32 : Int32) → ¬ a0 &&& (63 : Int32) = (33 : Int32) → ¬ a0 &&& (63 : Int32) = (34 : Int32) → ¬ a0 &&& (63 : Int32) = (35 : Int32) → ¬ a0 &&& (63 : Int32) = (36 : Int32) → ¬ a0 &&& (63 : Int32) = (37 : Int32) → ¬ a0 &&& (63 : Int32) = (38 : Int32) → ¬ a0 &&& (63 : Int32) = (39 : Int32) → ¬ a0 &&& (63 : Int32) = (40 : Int32) → ¬ a0 &&& (63 : Int32) = (41 : Int32) → ¬ a0 &&& (63 : Int32) = (42 : Int32) → ¬ a0 &&& (63 : Int32) = (43 : Int32) → ¬ a0 &&& (63 : Int32) = (44 : Int32) → ¬ a0 &&& (63 : Int32) = (45 : Int32) → ¬ a0 &&& (63 : Int32) = (46 : Int32) → ¬ a0 &&& (63 : Int32) = (47 : Int32) → ¬ a0 &&& (63 : Int32) = (48 : Int32) → B σ)
set_option maxHeartbeats 4000000 in
set_option maxRecDepth 100000 in
theorem law_step {p : Program} {l : Launch} {e : Env} {s : State} {m : MethodId} {below : List Frame} {meth : Method} {c : Code} {A : Nat → Prop} {X : GX} {b L : Nat} {xs : Nat → Int32} {Q : State → Prop} (hC : LC l X p s m meth c A b L xs) {x5 a0 a1 a2 a3 a4 : Int32} {σ : Mem} {H : Heap} {locs : List Loc} {ls : Array Slot} {cells slots : Nat} (e0 : xs x5.toNatClampNeg = a0) (hj : LJ x5 L xs a1 a2 a3 a4) (hz0 : cells ≤ room_1.cells ∧ slots ≤ room_1.slots) (hz1 : cells + 3 ≤ room_1.cells ∧ slots + 18 ≤ room_1.slots) (hS : WS X A s.heap σ H locs) (hl : lv_has ls 9 [(0, .ref b), (1, .ref (ga X 0)), (2, .ref (ga X 25)), (3, .ref (ga X 34)), (4, .ref (ga X 35)), (5, .int x5)]) {B : Mem → Prop} (h : wplc a0 a1 a2 a3 a4 σ B) (kE : LE p l e s m below meth c A X b x5 Q B cells slots) : W p l e room_1 s m #[Value.ref b] below meth c H locs cells slots Q (F0 m 37 ls []) := by
  obtain ⟨hx, hb, hml, hown, ht, hK, hZ, hA, hY, hX, hbl, hbA, hfl⟩ := id hC
  refine lv_aload_n hx hb ddL_law_37 rfl (lv_at hl 0 rfl) ?_
  refine lv_iload hx hb ddL_law_38 (lv_at hl 5 rfl) ?_
  refine va_sld hx hb hX hbl hbA hS.2.2 hj.1 ddL_law_40 ?_
  rw [e0]
  refine lv_bipush (v := (63 : Int32)) hx hb ddL_law_41 (by decide) ?_
  refine lv_iand hx hb ddL_law_43 ?_
  unfold wplc at h
  refine lv_topi (fun v ev => ?_)
  rw [← ev] at h
  by_cases c0 : v = (0 : Int32)
  · refine lv_tableIn (off := 212) (tgt := 256) hx hb ddL_law_44 (by rw [c0]; decide) (by rw [c0]; decide) (by rw [c0]; rfl) (by decide) ?_
    exact lc_0 hC hj hz0 hz1 hS hl (h.1 c0) kE
  replace h := h.2
  by_cases c1 : v = (1 : Int32)
  · refine lv_tableIn (off := 268) (tgt := 312) hx hb ddL_law_44 (by rw [c1]; decide) (by rw [c1]; decide) (by rw [c1]; rfl) (by decide) ?_
    exact lc_1 hC hj hz0 hz1 hS hl (h.1 c1) kE
  replace h := h.2
  by_cases c2 : v = (2 : Int32)
  · refine lv_tableIn (off := 324) (tgt := 368) hx hb ddL_law_44 (by rw [c2]; decide) (by rw [c2]; decide) (by rw [c2]; rfl) (by decide) ?_
    exact lc_2 hC hj hz0 hz1 hS hl (h.1 c2) kE
  replace h := h.2
  by_cases c3 : v = (3 : Int32)
  · refine lv_tableIn (off := 337) (tgt := 381) hx hb ddL_law_44 (by rw [c3]; decide) (by rw [c3]; decide) (by rw [c3]; rfl) (by decide) ?_
    exact lc_3 hC hj hz0 hz1 hS hl (h.1 c3) kE
  replace h := h.2
  by_cases c4 : v = (4 : Int32)
  · refine lv_tableIn (off := 350) (tgt := 394) hx hb ddL_law_44 (by rw [c4]; decide) (by rw [c4]; decide) (by rw [c4]; rfl) (by decide) ?_
    exact lc_4 hC hj hz0 hz1 hS hl (h.1 c4) kE
  replace h := h.2
  by_cases c5 : v = (5 : Int32)
  · refine lv_tableIn (off := 406) (tgt := 450) hx hb ddL_law_44 (by rw [c5]; decide) (by rw [c5]; decide) (by rw [c5]; rfl) (by decide) ?_
    exact lc_5 hC hj hz0 hz1 hS hl (h.1 c5) kE
  replace h := h.2
  by_cases c6 : v = (6 : Int32)
  · refine lv_tableIn (off := 462) (tgt := 506) hx hb ddL_law_44 (by rw [c6]; decide) (by rw [c6]; decide) (by rw [c6]; rfl) (by decide) ?_
    exact lc_6 hC hj hz0 hz1 hS hl (h.1 c6) kE
  replace h := h.2
  by_cases c7 : v = (7 : Int32)
  · refine lv_tableIn (off := 518) (tgt := 562) hx hb ddL_law_44 (by rw [c7]; decide) (by rw [c7]; decide) (by rw [c7]; rfl) (by decide) ?_
    exact lc_7 hC hj hz0 hz1 hS hl (h.1 c7) kE
  replace h := h.2
  by_cases c8 : v = (8 : Int32)
  · refine lv_tableIn (off := 598) (tgt := 642) hx hb ddL_law_44 (by rw [c8]; decide) (by rw [c8]; decide) (by rw [c8]; rfl) (by decide) ?_
    exact lc_8 hC hj hz0 hz1 hS hl (h.1 c8) kE
  replace h := h.2
  by_cases c9 : v = (9 : Int32)
  · refine lv_tableIn (off := 685) (tgt := 729) hx hb ddL_law_44 (by rw [c9]; decide) (by rw [c9]; decide) (by rw [c9]; rfl) (by decide) ?_
    exact lc_9 hC hj hz0 hz1 hS hl (h.1 c9) kE
  replace h := h.2
  by_cases c10 : v = (10 : Int32)
  · refine lv_tableIn (off := 753) (tgt := 797) hx hb ddL_law_44 (by rw [c10]; decide) (by rw [c10]; decide) (by rw [c10]; rfl) (by decide) ?_
    exact lc_10 hC hj hz0 hz1 hS hl (h.1 c10) kE
  replace h := h.2
  by_cases c11 : v = (11 : Int32)
  · refine lv_tableIn (off := 845) (tgt := 889) hx hb ddL_law_44 (by rw [c11]; decide) (by rw [c11]; decide) (by rw [c11]; rfl) (by decide) ?_
    exact lc_11 hC hj hz0 hz1 hS hl (h.1 c11) kE
  replace h := h.2
  by_cases c12 : v = (12 : Int32)
  · refine lv_tableIn (off := 901) (tgt := 945) hx hb ddL_law_44 (by rw [c12]; decide) (by rw [c12]; decide) (by rw [c12]; rfl) (by decide) ?_
    exact lc_12 hC hj hz0 hz1 hS hl (h.1 c12) kE
  replace h := h.2
  by_cases c13 : v = (13 : Int32)
  · refine lv_tableIn (off := 969) (tgt := 1013) hx hb ddL_law_44 (by rw [c13]; decide) (by rw [c13]; decide) (by rw [c13]; rfl) (by decide) ?_
    exact lc_13 hC hj hz0 hz1 hS hl (h.1 c13) kE
  replace h := h.2
  by_cases c14 : v = (14 : Int32)
  · refine lv_tableIn (off := 1037) (tgt := 1081) hx hb ddL_law_44 (by rw [c14]; decide) (by rw [c14]; decide) (by rw [c14]; rfl) (by decide) ?_
    exact lc_14 hC hj hz0 hz1 hS hl (h.1 c14) kE
  replace h := h.2
  by_cases c15 : v = (15 : Int32)
  · refine lv_tableIn (off := 1093) (tgt := 1137) hx hb ddL_law_44 (by rw [c15]; decide) (by rw [c15]; decide) (by rw [c15]; rfl) (by decide) ?_
    exact lc_15 hC hj hz0 hz1 hS hl (h.1 c15) kE
  replace h := h.2
  by_cases c16 : v = (16 : Int32)
  · refine lv_tableIn (off := 1106) (tgt := 1150) hx hb ddL_law_44 (by rw [c16]; decide) (by rw [c16]; decide) (by rw [c16]; rfl) (by decide) ?_
    exact lc_16 hC hj hz0 hz1 hS hl (h.1 c16) kE
  replace h := h.2
  by_cases c17 : v = (17 : Int32)
  · refine lv_tableIn (off := 1162) (tgt := 1206) hx hb ddL_law_44 (by rw [c17]; decide) (by rw [c17]; decide) (by rw [c17]; rfl) (by decide) ?_
    exact lc_17 hC hj hz0 hz1 hS hl (h.1 c17) kE
  replace h := h.2
  by_cases c18 : v = (18 : Int32)
  · refine lv_tableIn (off := 1175) (tgt := 1219) hx hb ddL_law_44 (by rw [c18]; decide) (by rw [c18]; decide) (by rw [c18]; rfl) (by decide) ?_
    exact lc_18 hC hj hz0 hz1 hS hl (h.1 c18) kE
  replace h := h.2
  by_cases c19 : v = (19 : Int32)
  · refine lv_tableIn (off := 1188) (tgt := 1232) hx hb ddL_law_44 (by rw [c19]; decide) (by rw [c19]; decide) (by rw [c19]; rfl) (by decide) ?_
    exact lc_19 hC hj hz0 hz1 hS hl (h.1 c19) kE
  replace h := h.2
  by_cases c20 : v = (20 : Int32)
  · refine lv_tableIn (off := 1244) (tgt := 1288) hx hb ddL_law_44 (by rw [c20]; decide) (by rw [c20]; decide) (by rw [c20]; rfl) (by decide) ?_
    exact lc_20 hC hj hz0 hz1 hS hl (h.1 c20) kE
  replace h := h.2
  by_cases c21 : v = (21 : Int32)
  · refine lv_tableIn (off := 1300) (tgt := 1344) hx hb ddL_law_44 (by rw [c21]; decide) (by rw [c21]; decide) (by rw [c21]; rfl) (by decide) ?_
    exact lc_21 hC hj hz0 hz1 hS hl (h.1 c21) kE
  replace h := h.2
  by_cases c22 : v = (22 : Int32)
  · refine lv_tableIn (off := 1356) (tgt := 1400) hx hb ddL_law_44 (by rw [c22]; decide) (by rw [c22]; decide) (by rw [c22]; rfl) (by decide) ?_
    exact lc_22 hC hj hz0 hz1 hS hl (h.1 c22) kE
  replace h := h.2
  by_cases c23 : v = (23 : Int32)
  · refine lv_tableIn (off := 1412) (tgt := 1456) hx hb ddL_law_44 (by rw [c23]; decide) (by rw [c23]; decide) (by rw [c23]; rfl) (by decide) ?_
    exact lc_23 hC hj hz0 hz1 hS hl (h.1 c23) kE
  replace h := h.2
  by_cases c24 : v = (24 : Int32)
  · refine lv_tableIn (off := 1468) (tgt := 1512) hx hb ddL_law_44 (by rw [c24]; decide) (by rw [c24]; decide) (by rw [c24]; rfl) (by decide) ?_
    exact lc_24 hC hj hz0 hz1 hS hl (h.1 c24) kE
  replace h := h.2
  by_cases c25 : v = (25 : Int32)
  · refine lv_tableIn (off := 1548) (tgt := 1592) hx hb ddL_law_44 (by rw [c25]; decide) (by rw [c25]; decide) (by rw [c25]; rfl) (by decide) ?_
    exact lc_25 hC hj hz0 hz1 hS hl (h.1 c25) kE
  replace h := h.2
  by_cases c26 : v = (26 : Int32)
  · refine lv_tableIn (off := 1616) (tgt := 1660) hx hb ddL_law_44 (by rw [c26]; decide) (by rw [c26]; decide) (by rw [c26]; rfl) (by decide) ?_
    exact lc_26 hC hj hz0 hz1 hS hl (h.1 c26) kE
  replace h := h.2
  by_cases c27 : v = (27 : Int32)
  · refine lv_tableIn (off := 1691) (tgt := 1735) hx hb ddL_law_44 (by rw [c27]; decide) (by rw [c27]; decide) (by rw [c27]; rfl) (by decide) ?_
    exact lc_27 hC hj hz0 hz1 hS hl (h.1 c27) kE
  replace h := h.2
  by_cases c28 : v = (28 : Int32)
  · refine lv_tableIn (off := 1747) (tgt := 1791) hx hb ddL_law_44 (by rw [c28]; decide) (by rw [c28]; decide) (by rw [c28]; rfl) (by decide) ?_
    exact lc_28 hC hj hz0 hz1 hS hl (h.1 c28) kE
  replace h := h.2
  by_cases c29 : v = (29 : Int32)
  · refine lv_tableIn (off := 1803) (tgt := 1847) hx hb ddL_law_44 (by rw [c29]; decide) (by rw [c29]; decide) (by rw [c29]; rfl) (by decide) ?_
    exact lc_29 hC hj hz0 hz1 hS hl (h.1 c29) kE
  replace h := h.2
  by_cases c30 : v = (30 : Int32)
  · refine lv_tableIn (off := 1859) (tgt := 1903) hx hb ddL_law_44 (by rw [c30]; decide) (by rw [c30]; decide) (by rw [c30]; rfl) (by decide) ?_
    exact lc_30 hC hj hz0 hz1 hS hl (h.1 c30) kE
  replace h := h.2
  by_cases c31 : v = (31 : Int32)
  · refine lv_tableIn (off := 1872) (tgt := 1916) hx hb ddL_law_44 (by rw [c31]; decide) (by rw [c31]; decide) (by rw [c31]; rfl) (by decide) ?_
    exact lc_31 hC hj hz0 hz1 hS hl (h.1 c31) kE
  replace h := h.2
  by_cases c32 : v = (32 : Int32)
  · refine lv_tableIn (off := 1885) (tgt := 1929) hx hb ddL_law_44 (by rw [c32]; decide) (by rw [c32]; decide) (by rw [c32]; rfl) (by decide) ?_
    exact lc_32 hC hj hz0 hz1 hS hl (h.1 c32) kE
  replace h := h.2
  by_cases c33 : v = (33 : Int32)
  · refine lv_tableIn (off := 1898) (tgt := 1942) hx hb ddL_law_44 (by rw [c33]; decide) (by rw [c33]; decide) (by rw [c33]; rfl) (by decide) ?_
    exact lc_33 hC hj hz0 hz1 hS hl (h.1 c33) kE
  replace h := h.2
  by_cases c34 : v = (34 : Int32)
  · refine lv_tableIn (off := 1942) (tgt := 1986) hx hb ddL_law_44 (by rw [c34]; decide) (by rw [c34]; decide) (by rw [c34]; rfl) (by decide) ?_
    exact lc_34 hC hj hz0 hz1 hS hl (h.1 c34) kE
  replace h := h.2
  by_cases c35 : v = (35 : Int32)
  · refine lv_tableIn (off := 1986) (tgt := 2030) hx hb ddL_law_44 (by rw [c35]; decide) (by rw [c35]; decide) (by rw [c35]; rfl) (by decide) ?_
    exact lc_35 hC hj hz0 hz1 hS hl (h.1 c35) kE
  replace h := h.2
  by_cases c36 : v = (36 : Int32)
  · refine lv_tableIn (off := 2051) (tgt := 2095) hx hb ddL_law_44 (by rw [c36]; decide) (by rw [c36]; decide) (by rw [c36]; rfl) (by decide) ?_
    exact lc_36 hC hj hz0 hz1 hS hl (h.1 c36) kE
  replace h := h.2
  by_cases c37 : v = (37 : Int32)
  · refine lv_tableIn (off := 2117) (tgt := 2161) hx hb ddL_law_44 (by rw [c37]; decide) (by rw [c37]; decide) (by rw [c37]; rfl) (by decide) ?_
    exact lc_37 hC hj hz0 hz1 hS hl (h.1 c37) kE
  replace h := h.2
  by_cases c38 : v = (38 : Int32)
  · refine lv_tableIn (off := 2173) (tgt := 2217) hx hb ddL_law_44 (by rw [c38]; decide) (by rw [c38]; decide) (by rw [c38]; rfl) (by decide) ?_
    exact lc_38 hC hj hz0 hz1 hS hl (h.1 c38) kE
  replace h := h.2
  by_cases c39 : v = (39 : Int32)
  · refine lv_tableIn (off := 2229) (tgt := 2273) hx hb ddL_law_44 (by rw [c39]; decide) (by rw [c39]; decide) (by rw [c39]; rfl) (by decide) ?_
    exact lc_39 hC hj hz0 hz1 hS hl (h.1 c39) kE
  replace h := h.2
  by_cases c40 : v = (40 : Int32)
  · refine lv_tableIn (off := 2285) (tgt := 2329) hx hb ddL_law_44 (by rw [c40]; decide) (by rw [c40]; decide) (by rw [c40]; rfl) (by decide) ?_
    exact lc_40 hC hj hz0 hz1 hS hl (h.1 c40) kE
  replace h := h.2
  by_cases c41 : v = (41 : Int32)
  · refine lv_tableIn (off := 2298) (tgt := 2342) hx hb ddL_law_44 (by rw [c41]; decide) (by rw [c41]; decide) (by rw [c41]; rfl) (by decide) ?_
    exact lc_41 hC hj hz0 hz1 hS hl (h.1 c41) kE
  replace h := h.2
  by_cases c42 : v = (42 : Int32)
  · refine lv_tableIn (off := 2356) (tgt := 2400) hx hb ddL_law_44 (by rw [c42]; decide) (by rw [c42]; decide) (by rw [c42]; rfl) (by decide) ?_
    exact lc_42 hC hj hz0 hz1 hS hl (h.1 c42) kE
  replace h := h.2
  by_cases c43 : v = (43 : Int32)
  · refine lv_tableIn (off := 2400) (tgt := 2444) hx hb ddL_law_44 (by rw [c43]; decide) (by rw [c43]; decide) (by rw [c43]; rfl) (by decide) ?_
    exact lc_43 hC hj hz0 hz1 hS hl (h.1 c43) kE
  replace h := h.2
  by_cases c44 : v = (44 : Int32)
  · refine lv_tableIn (off := 2444) (tgt := 2488) hx hb ddL_law_44 (by rw [c44]; decide) (by rw [c44]; decide) (by rw [c44]; rfl) (by decide) ?_
    exact lc_44 hC hj hz0 hz1 hS hl (h.1 c44) kE
  replace h := h.2
  by_cases c45 : v = (45 : Int32)
  · refine lv_tableIn (off := 2488) (tgt := 2532) hx hb ddL_law_44 (by rw [c45]; decide) (by rw [c45]; decide) (by rw [c45]; rfl) (by decide) ?_
    exact lc_45 hC hj hz0 hz1 hS hl (h.1 c45) kE
  replace h := h.2
  by_cases c46 : v = (46 : Int32)
  · refine lv_tableIn (off := 2532) (tgt := 2576) hx hb ddL_law_44 (by rw [c46]; decide) (by rw [c46]; decide) (by rw [c46]; rfl) (by decide) ?_
    exact lc_46 hC hj hz0 hz1 hS hl (h.1 c46) kE
  replace h := h.2
  by_cases c47 : v = (47 : Int32)
  · refine lv_tableIn (off := 2545) (tgt := 2589) hx hb ddL_law_44 (by rw [c47]; decide) (by rw [c47]; decide) (by rw [c47]; rfl) (by decide) ?_
    exact lc_47 hC hj hz0 hz1 hS hl (h.1 c47) kE
  replace h := h.2
  by_cases c48 : v = (48 : Int32)
  · refine lv_tableIn (off := 2558) (tgt := 2602) hx hb ddL_law_44 (by rw [c48]; decide) (by rw [c48]; decide) (by rw [c48]; rfl) (by decide) ?_
    exact lc_48 hC hj hz0 hz1 hS hl (h.1 c48) kE
  replace h := h.2
  replace h := h c0 c1 c2 c3 c4 c5 c6 c7 c8 c9 c10 c11 c12 c13 c14 c15 c16 c17 c18 c19 c20 c21 c22 c23 c24 c25 c26 c27 c28 c29 c30 c31 c32 c33 c34 c35 c36 c37 c38 c39 c40 c41 c42 c43 c44 c45 c46 c47 c48
  refine lv_tableOut (tgt := 2646) hx hb ddL_law_44 (by have := ne_toInt c0 (a := 0) rfl; have := ne_toInt c1 (a := 1) rfl; have := ne_toInt c2 (a := 2) rfl; have := ne_toInt c3 (a := 3) rfl; have := ne_toInt c4 (a := 4) rfl; have := ne_toInt c5 (a := 5) rfl; have := ne_toInt c6 (a := 6) rfl; have := ne_toInt c7 (a := 7) rfl; have := ne_toInt c8 (a := 8) rfl; have := ne_toInt c9 (a := 9) rfl; have := ne_toInt c10 (a := 10) rfl; have := ne_toInt c11 (a := 11) rfl; have := ne_toInt c12 (a := 12) rfl; have := ne_toInt c13 (a := 13) rfl; have := ne_toInt c14 (a := 14) rfl; have := ne_toInt c15 (a := 15) rfl; have := ne_toInt c16 (a := 16) rfl; have := ne_toInt c17 (a := 17) rfl; have := ne_toInt c18 (a := 18) rfl; have := ne_toInt c19 (a := 19) rfl; have := ne_toInt c20 (a := 20) rfl; have := ne_toInt c21 (a := 21) rfl; have := ne_toInt c22 (a := 22) rfl; have := ne_toInt c23 (a := 23) rfl; have := ne_toInt c24 (a := 24) rfl; have := ne_toInt c25 (a := 25) rfl; have := ne_toInt c26 (a := 26) rfl; have := ne_toInt c27 (a := 27) rfl; have := ne_toInt c28 (a := 28) rfl; have := ne_toInt c29 (a := 29) rfl; have := ne_toInt c30 (a := 30) rfl; have := ne_toInt c31 (a := 31) rfl; have := ne_toInt c32 (a := 32) rfl; have := ne_toInt c33 (a := 33) rfl; have := ne_toInt c34 (a := 34) rfl; have := ne_toInt c35 (a := 35) rfl; have := ne_toInt c36 (a := 36) rfl; have := ne_toInt c37 (a := 37) rfl; have := ne_toInt c38 (a := 38) rfl; have := ne_toInt c39 (a := 39) rfl; have := ne_toInt c40 (a := 40) rfl; have := ne_toInt c41 (a := 41) rfl; have := ne_toInt c42 (a := 42) rfl; have := ne_toInt c43 (a := 43) rfl; have := ne_toInt c44 (a := 44) rfl; have := ne_toInt c45 (a := 45) rfl; have := ne_toInt c46 (a := 46) rfl; have := ne_toInt c47 (a := 47) rfl; have := ne_toInt c48 (a := 48) rfl; omega) (by decide) ?_
  exact kE _ _ _ _ _ _ ⟨by omega, by omega⟩ hS hl h
set_option maxHeartbeats 4000000 in
set_option maxRecDepth 100000 in
theorem law_loop {p : Program} {l : Launch} {e : Env} {s : State} {m : MethodId} {below : List Frame} {meth : Method} {c : Code} {X : GX} {b L : Nat} {xs : Nat → Int32} (hC : LC l X p s m meth c (fun q => s.heap.size ≤ q) b L xs) (hr : meth.sig.returnType = ret) (hlocks : meth.locks = false) (hL : L ≤ 2560) (Inv : Mem → Prop) (hstep : ∀ a0 a1 a2 a3 a4 σ, Inv σ → wplc a0 a1 a2 a3 a4 σ Inv) :
    ∀ (n i : Nat), i ≤ L → L + 1 ≤ i + n → ∀ (σ : Mem) (H : Heap) (locs : List Loc) (ls : Array Slot), Inv σ → WS X (fun q => s.heap.size ≤ q) s.heap σ H locs → lv_has ls 9 [(0, .ref b), (1, .ref (ga X 0)), (2, .ref (ga X 25)), (3, .ref (ga X 34)), (4, .ref (ga X 35)), (5, .int (nI i))] → W p l e room_1 s m #[Value.ref b] below meth c H locs (100 + 3 * i) (10000 + 18 * i) (lw_Z below #[Value.ref b] s) (F0 m 28 ls []) := by
  intro n
  induction n with
  | zero => intro i h1 h2; exact absurd h2 (by omega)
  | succ n ih =>
    intro i hi hn σ H locs ls hI hS hl
    obtain ⟨hx, hb, hml, hown, ht, hK, hZ, hA, hY, hX, hbl, hbA, hfl⟩ := id hC
    refine lv_iload hx hb ddL_law_28 (lv_at hl 5 rfl) ?_
    refine lv_aload_n hx hb ddL_law_30 rfl (lv_at hl 0 rfl) ?_
    refine va_slen hx hb hX hbl hbA hS.2.2 ddL_law_31 ?_
    refine lv_iconst (v := (5 : Int32)) hx hb ddL_law_32 (by decide) ?_
    refine lv_isub hx hb ddL_law_33 ?_
    have hsub : (Int32.ofNat L - (5 : Int32)).toInt = (L : Int) - 5 := pk_sub_toInt (a := L) (b := 5) (by omega) (by decide)
    refine lv_icmp_gt (tgt := 2652) hx hb ddL_law_34 (by decide) (fun c1 => ?_) (fun c1 => ?_)
    · refine lv_iconst (v := (1 : Int32)) hx hb ddL_law_2652 (by decide) ?_
      refine va_forget (fun q hq => hS.2.2.2.2 q hq) ?_
      refine W.widen (k := 603072) (n := 7194730) (by omega) (by omega) ?_
      exact lw_ret (d0 := s.drawn) (Drawn.sameBut.refl s.drawn lw_cs) hx hb hr hlocks ddL_law_2653
    · have h5 : i + 5 ≤ L := by
        rcases Nat.lt_or_ge L (i + 5) with q | q
        · exfalso
          apply c1
          rw [Int32.lt_iff_toInt_lt, hsub, nI_toInt (by omega)]
          omega
        · exact q
      have hk : ∀ k : Nat, k < 5 → vp_in (nI (i + k)) L := fun k hk => vp_in_nI (by omega) (by omega)
      have e1 : nI i + (1 : Int32) = nI (i + 1) := nI_add i 1
      have e2 : nI i + (2 : Int32) = nI (i + 2) := nI_add i 2
      have e3 : nI i + (3 : Int32) = nI (i + 3) := nI_add i 3
      have e4 : nI i + (4 : Int32) = nI (i + 4) := nI_add i 4
      refine law_step (x5 := nI i) hC rfl ⟨hk 0 (by decide), by rw [e1]; exact hk 1 (by decide), by rw [e2]; exact hk 2 (by decide), by rw [e3]; exact hk 3 (by decide), by rw [e4]; exact hk 4 (by decide), rfl, rfl, rfl, rfl⟩ ⟨Nat.le_trans (show 100 + 3 * i ≤ 100 + 3 * 2560 by omega) (Nat.le_of_ble_eq_true rfl), Nat.le_trans (show 10000 + 18 * i ≤ 10000 + 18 * 2560 by omega) (Nat.le_of_ble_eq_true rfl)⟩ ⟨Nat.le_trans (show 100 + 3 * i + 3 ≤ 100 + 3 * 2560 + 3 by omega) (Nat.le_of_ble_eq_true rfl), Nat.le_trans (show 10000 + 18 * i + 18 ≤ 10000 + 18 * 2560 + 18 by omega) (Nat.le_of_ble_eq_true rfl)⟩ hS hl (hstep _ _ _ _ _ σ hI) ?_
      intro σ H locs ls cells' slots' hle hS hl hI
      refine lv_iinc (v := nI (i + 5)) (lv' := [(5, .int (nI (i + 5))), (0, .ref b), (1, .ref (ga X 0)), (2, .ref (ga X 25)), (3, .ref (ga X 34)), (4, .ref (ga X 35))]) hx hb ddL_law_2646 hl (k := 5) rfl (by rw [← nI_add i 5]; rfl) (by decide) rfl (fun ls hl => ?_)
      refine lv_goto (tgt := 28) hx hb ddL_law_2649 (by decide) ?_
      refine W.widen (k := 100 + 3 * (i + 5)) (n := 10000 + 18 * (i + 5)) (by omega) (by omega) ?_
      exact ih (i + 5) h5 (by omega) σ H locs ls hI hS (lv_sub hl [1, 2, 3, 4, 5, 0] rfl)
/-- the first state -/
def σ0 : Mem := fun c => match c with
  | 0 => fun j => if j = 10 then -1 else if j = 11 then -1 else 0
  | 2 => upd (fun _ => 0) 2 20
  | 25 => fun j => if j = 12 then -1 else if j = 13 then -1 else 0
  | 26 => g0 140
  | _ => fun _ => 0
theorem va_P_mid {D : va_G} {cl : List vw_C} {H : Heap} {l1 l2 : va_W} {x y : Nat × va_E} (h : va_P D cl (l1 ++ x :: l2) H) (hy : va_at D cl x H → va_at D cl y H) : va_P D cl (l1 ++ y :: l2) H := by
  intro k q hq
  by_cases hk : k < l1.length
  · rw [List.getElem?_append_left hk] at hq
    exact h k q (by rw [List.getElem?_append_left hk]; exact hq)
  · rw [List.getElem?_append_right (by omega)] at hq
    cases hd : k - l1.length with
    | zero =>
      rw [hd] at hq
      cases hq
      exact hy (h k x (by rw [List.getElem?_append_right (by omega), hd]; rfl))
    | succ j =>
      rw [hd] at hq
      exact h k q (by rw [List.getElem?_append_right (by omega), hd]; exact hq)
theorem va_D_fst {A : Nat → Prop} {w w' : va_W} (h : va_D A w) (e : w.map (fun q => q.1) = w'.map (fun q => q.1)) : va_D A w' := by
  have key : ∀ (i : Nat) (p : Nat × va_E), w'[i]? = some p → ∃ p', w[i]? = some p' ∧ p'.1 = p.1 := by
    intro i p hp
    have h1 : (w'.map (fun q => q.1))[i]? = some p.1 := by rw [List.getElem?_map, hp]; rfl
    rw [← e, List.getElem?_map] at h1
    cases hw : w[i]? with
    | none => rw [hw] at h1; cases h1
    | some p' => rw [hw] at h1; exact ⟨p', rfl, Option.some.inj h1⟩
  refine ⟨fun i j p q hp hq hpq => ?_, fun k q hq => ?_⟩
  · obtain ⟨p', a1, a2⟩ := key i p hp
    obtain ⟨q', b1, b2⟩ := key j q hq
    exact h.1 i j p' q' a1 b1 (by rw [a2, b2, hpq])
  · obtain ⟨q', b1, b2⟩ := key k q hq
    rw [← b2]
    exact h.2 k q' b1
theorem row9_at {D : va_G} {cl : List vw_C} {H : Heap} {q : Nat} {cA : ClassId} {f g : Nat → Option Nat} (e : ∀ i, i < 9 → f i = g i) (h : va_at D cl (q, .inl (cA, 9, .inr (.inr (.inr (.inr f))))) H) : va_at D cl (q, .inl (cA, 9, .inr (.inr (.inr (.inr g))))) H := by
  have ec : vp_cell cA (9, .inr (.inr (.inr (.inr f)))) = vp_cell cA (9, .inr (.inr (.inr (.inr g)))) := by
    show ({ cls := cA, slots := Array.ofFn (n := 9) fun j => va_rf (f j.val), vm := .none } : Cell) = { cls := cA, slots := Array.ofFn (n := 9) fun j => va_rf (g j.val), vm := .none }
    congr 2
    funext j
    rw [e j.val j.isLt]
  show H[q]? = some (vp_cell cA (9, .inr (.inr (.inr (.inr g)))))
  rw [← ec]
  exact h
theorem dv0 : (fun j => dval (σ0 35 (3 * j)) (σ0 35 (3 * j + 1)) (σ0 35 (3 * j + 2))) = fun _ => 0 := by
  funext j
  exact if_pos rfl
theorem lv0 : (fun j => (σ0 34 j).toInt64) = fun _ => 0 := by
  funext j
  exact (by decide : (0 : Int32).toInt64 = 0)
set_option maxHeartbeats 4000000 in
set_option maxRecDepth 100000 in
theorem law_run {p : Program} {e : Env} {s : State} {m : MethodId} {below : List Frame} {meth : Method} {c : Code} (l : Launch) (hst : l.stackTraces = false) {b L : Nat} {xs : Nat → Int32} (hL : L ≤ 2560) (C0 : lw_At p s m meth c b L xs) (Inv : Mem → Prop) (hinit : Inv σ0) (hstep : ∀ a0 a1 a2 a3 a4 σ, Inv σ → wplc a0 a1 a2 a3 a4 σ Inv) : W p l e room_1 s m #[Value.ref b] below meth c s.heap [] 0 0 (lw_Z below #[Value.ref b] s) (entryFrame m ([Value.ref b] : List Value).toArray 9) := by
  obtain ⟨hx, hb, hr, hml, hown, hts, hX, hbl, hlocks, hgv⟩ := id C0
  have hA : ∀ q : Nat, s.heap.size ≤ q → (fun q : Nat => s.heap.size ≤ q) q := fun _ h => h
  have hbA : ¬ (fun q : Nat => s.heap.size ≤ q) b := Nat.not_le.mpr hbl
  have hA9 : ∀ a : Nat, a < s.heap.size → ¬ (fun q : Nat => s.heap.size ≤ q) a := fun a h => Nat.not_le.mpr h
  have ht : ∀ w ∈ gw, w.before #[Value.ref b] s = true := fun w hw => hts w (gw_tbl w hw)
  have hown : s.vm.findClass "GuardRosterLaw" = some m.cls := hown
  have hq := flat_of_before _ hgv
  have hN := nf_start hts
  have hY := yf_start hts
  obtain ⟨D, gcc, hKK⟩ := k_start hts hN
  obtain ⟨gk, gv, hZZ⟩ := z_start hts hq hA9
  have hfl : l.stackTraces = false := hst
  generalize hX0 : (((D, fun _ => 0), gcc, gk, gv) : GX) = X
  have hK : va_K (gD X) cls (tysW X) s := by rw [← hX0]; exact hKK _ _ _
  have hS : va_S (fun q : Nat => s.heap.size ≤ q) s.heap s.heap [] := va_S.rf
  have hP : va_P (gD X) cls [] s.heap := fun k q h => by simp at h
  have hD : va_D (fun q : Nat => s.heap.size ≤ q) [] := ⟨fun i j p q h => by simp at h, fun k q h => by simp at h⟩
  have hl := lv_entry ([.ref b]) (n := 9) (Nat.le_of_ble_eq_true rfl)
  rw [lg_entry_eq]
  generalize (lg_sl ([.ref b]) ++ List.replicate (9 - (lg_sl ([.ref b])).length) Slot.unset).toArray = ls at hl ⊢
  have hl : lv_has ls 9 [(0, .ref b)] := hl
  refine va_new (ci := 0) (fs := [.null, .null, .null, .null, .null, .int 0, .null, .int 0, .int 0, .int 0, .int 0, .int 0]) (C := RX4) (T := TX4) (N := 12) hx hb ht in_0 tyX4 tyX4_ok hown (ht _ lk24) (ht _ lk25) (ht _ lk1) hK hP hD hS hA rfl (fun j hj => by rcases (show j = 0 ∨ j = 1 ∨ j = 2 ∨ j = 3 ∨ j = 4 ∨ j = 5 ∨ j = 6 ∨ j = 7 ∨ j = 8 ∨ j = 9 ∨ j = 10 ∨ j = 11 by omega) with rfl | rfl | rfl | rfl | rfl | rfl | rfl | rfl | rfl | rfl | rfl | rfl <;> rfl) (Nat.le_of_ble_eq_true rfl) (Nat.le_of_ble_eq_true rfl) ddL_law_0 (fun q0 H hP hD hS => ?_)
  have hP : va_P (gD X) cls [(q0, .inr (0, [.null, .null, .null, .null, .null, .int 0, .null, .int 0, .int 0, .int 0, .int 0, .int 0]))] H := hP
  have hD : va_D (fun q : Nat => s.heap.size ≤ q) [(q0, .inr (0, [.null, .null, .null, .null, .null, .int 0, .null, .int 0, .int 0, .int 0, .int 0, .int 0]))] := hD
  refine W.widen (k := 1) (n := 12) (Nat.le_of_ble_eq_true rfl) (Nat.le_of_ble_eq_true rfl) ?_
  refine lv_dup hx hb ddL_law_3 rfl ?_
  have hPc := hP.sub (ws' := [(q0, .inr (0, [.null, .null, .null, .null, .null, .int 0, .null, .int 0, .int 0, .int 0, .int 0, .int 0]))]) [0] rfl
  have hDc := hD.sub (ws' := [(q0, .inr (0, [.null, .null, .null, .null, .null, .int 0, .null, .int 0, .int 0, .int 0, .int 0, .int 0]))]) [0] (by decide) rfl
  have hFc := va_free (wc := [(q0, .inr (0, [.null, .null, .null, .null, .null, .int 0, .null, .int 0, .int 0, .int 0, .int 0, .int 0]))]) hD hS hA [0] rfl
  refine va_callv (va_runI (As := []) (rest := [.ref q0]) ⟨hx, hb, hml, hown, ht⟩ (c_X4_init l X q0 H.size) ⟨kx_callB mfi_X4_init ht lk26 ⟨rfl, rfl⟩ ⟨Nat.le_of_ble_eq_true rfl, Nat.le_of_ble_eq_true rfl⟩, rfl, ht _ lk27⟩ ⟨cp_blind _ _ _, fun U hU hW => ⟨rfl, by rw [hU], by rw [hU]; exact hPc, va_K.moved hW.alike hK, hDc.weaken (fun _ _ _ _ => trivial), hN.warm hW⟩⟩ rfl rfl hl.1 rfl (lv_room (Nat.le_of_ble_eq_true rfl)) ddL_law_4 ⟨Nat.le_of_ble_eq_true rfl, Nat.le_of_ble_eq_true rfl⟩) hS (fun q _ h => hFc q h) hFc (fun u t H1 locs ht9 hvm hw hB hz1 hk1 hS => ?_)
  obtain ⟨hP1, hK1, hD1⟩ := hB
  rw [ht9] at hP1
  obtain ⟨hP, hD⟩ := va_join (wr := []) (w1 := [(q0, .inr (0, [.ref (u 1), .ref (u 4), .ref (u 15), .ref (u 19), .ref (u 23), .int 0, .ref (u 24), .int 0, .int 0, .int 0, .int (-1 : Int32), .int (-1 : Int32)])), ((u 1), .inr (1, [.ref (u 2), .ref (u 3)])), ((u 2), .inl (gc X 0, 179, .inl (upd (fun _ => 0) 2 20))), ((u 3), .inl (gc X 0, 10, .inl (fun _ => 0))), ((u 4), .inr (2, [.ref (u 5), .int 0, .int 0])), ((u 5), .inl (gc X 2, 9, .inr (.inr (.inr (.inr (fun i => if i < 9 then some (u (6 + i)) else none)))))), ((u 6), .inl (gc X 0, 179, .inl (fun _ => 0))), ((u 7), .inl (gc X 0, 179, .inl (fun _ => 0))), ((u 8), .inl (gc X 0, 179, .inl (fun _ => 0))), ((u 9), .inl (gc X 0, 179, .inl (fun _ => 0))), ((u 10), .inl (gc X 0, 179, .inl (fun _ => 0))), ((u 11), .inl (gc X 0, 179, .inl (fun _ => 0))), ((u 12), .inl (gc X 0, 179, .inl (fun _ => 0))), ((u 13), .inl (gc X 0, 179, .inl (fun _ => 0))), ((u 14), .inl (gc X 0, 179, .inl (fun _ => 0))), ((u 15), .inr (3, [.ref (u 16), .ref (u 17), .int 0, .ref (u 18)])), ((u 16), .inl (gc X 0, 5, .inl (fun _ => 0))), ((u 17), .inl (gc X 0, 10, .inl (fun _ => 0))), ((u 18), .inl (gc X 0, 32, .inl (fun _ => 0))), ((u 19), .inr (4, [.ref (u 20), .int 0, .ref (u 21), .ref (u 22), .int 0, .int 0])), ((u 20), .inl (gc X 1, 60, .inl (fun _ => 0))), ((u 21), .inl (gc X 0, 9, .inl (fun _ => 0))), ((u 22), .inl (gc X 0, 27, .inl (fun _ => 0))), ((u 23), .inl (gc X 0, 179, .inl (fun _ => 0))), ((u 24), .inl (gc X 1, 28, .inl (fun _ => 0)))]) hP hD [0] [] rfl rfl (by decide) (by decide) hk1 hFc hP1 hD1
  generalize H1 = H at hP hS ⊢
  have hP : va_P (gD X) cls [(q0, .inr (0, [.ref (u 1), .ref (u 4), .ref (u 15), .ref (u 19), .ref (u 23), .int 0, .ref (u 24), .int 0, .int 0, .int 0, .int (-1 : Int32), .int (-1 : Int32)])), ((u 1), .inr (1, [.ref (u 2), .ref (u 3)])), ((u 2), .inl (gc X 0, 179, .inl (upd (fun _ => 0) 2 20))), ((u 3), .inl (gc X 0, 10, .inl (fun _ => 0))), ((u 4), .inr (2, [.ref (u 5), .int 0, .int 0])), ((u 5), .inl (gc X 2, 9, .inr (.inr (.inr (.inr (fun i => if i < 9 then some (u (6 + i)) else none)))))), ((u 6), .inl (gc X 0, 179, .inl (fun _ => 0))), ((u 7), .inl (gc X 0, 179, .inl (fun _ => 0))), ((u 8), .inl (gc X 0, 179, .inl (fun _ => 0))), ((u 9), .inl (gc X 0, 179, .inl (fun _ => 0))), ((u 10), .inl (gc X 0, 179, .inl (fun _ => 0))), ((u 11), .inl (gc X 0, 179, .inl (fun _ => 0))), ((u 12), .inl (gc X 0, 179, .inl (fun _ => 0))), ((u 13), .inl (gc X 0, 179, .inl (fun _ => 0))), ((u 14), .inl (gc X 0, 179, .inl (fun _ => 0))), ((u 15), .inr (3, [.ref (u 16), .ref (u 17), .int 0, .ref (u 18)])), ((u 16), .inl (gc X 0, 5, .inl (fun _ => 0))), ((u 17), .inl (gc X 0, 10, .inl (fun _ => 0))), ((u 18), .inl (gc X 0, 32, .inl (fun _ => 0))), ((u 19), .inr (4, [.ref (u 20), .int 0, .ref (u 21), .ref (u 22), .int 0, .int 0])), ((u 20), .inl (gc X 1, 60, .inl (fun _ => 0))), ((u 21), .inl (gc X 0, 9, .inl (fun _ => 0))), ((u 22), .inl (gc X 0, 27, .inl (fun _ => 0))), ((u 23), .inl (gc X 0, 179, .inl (fun _ => 0))), ((u 24), .inl (gc X 1, 28, .inl (fun _ => 0)))] H := hP
  have hD : va_D (fun q : Nat => s.heap.size ≤ q) [(q0, .inr (0, [.ref (u 1), .ref (u 4), .ref (u 15), .ref (u 19), .ref (u 23), .int 0, .ref (u 24), .int 0, .int 0, .int 0, .int (-1 : Int32), .int (-1 : Int32)])), ((u 1), .inr (1, [.ref (u 2), .ref (u 3)])), ((u 2), .inl (gc X 0, 179, .inl (upd (fun _ => 0) 2 20))), ((u 3), .inl (gc X 0, 10, .inl (fun _ => 0))), ((u 4), .inr (2, [.ref (u 5), .int 0, .int 0])), ((u 5), .inl (gc X 2, 9, .inr (.inr (.inr (.inr (fun i => if i < 9 then some (u (6 + i)) else none)))))), ((u 6), .inl (gc X 0, 179, .inl (fun _ => 0))), ((u 7), .inl (gc X 0, 179, .inl (fun _ => 0))), ((u 8), .inl (gc X 0, 179, .inl (fun _ => 0))), ((u 9), .inl (gc X 0, 179, .inl (fun _ => 0))), ((u 10), .inl (gc X 0, 179, .inl (fun _ => 0))), ((u 11), .inl (gc X 0, 179, .inl (fun _ => 0))), ((u 12), .inl (gc X 0, 179, .inl (fun _ => 0))), ((u 13), .inl (gc X 0, 179, .inl (fun _ => 0))), ((u 14), .inl (gc X 0, 179, .inl (fun _ => 0))), ((u 15), .inr (3, [.ref (u 16), .ref (u 17), .int 0, .ref (u 18)])), ((u 16), .inl (gc X 0, 5, .inl (fun _ => 0))), ((u 17), .inl (gc X 0, 10, .inl (fun _ => 0))), ((u 18), .inl (gc X 0, 32, .inl (fun _ => 0))), ((u 19), .inr (4, [.ref (u 20), .int 0, .ref (u 21), .ref (u 22), .int 0, .int 0])), ((u 20), .inl (gc X 1, 60, .inl (fun _ => 0))), ((u 21), .inl (gc X 0, 9, .inl (fun _ => 0))), ((u 22), .inl (gc X 0, 27, .inl (fun _ => 0))), ((u 23), .inl (gc X 0, 179, .inl (fun _ => 0))), ((u 24), .inl (gc X 1, 28, .inl (fun _ => 0)))] := hD
  refine W.widen (k := 25) (n := 2186) (Nat.le_of_ble_eq_true rfl) (Nat.le_of_ble_eq_true rfl) ?_
  refine lv_astore_n (lv' := [(1, .ref q0), (0, .ref b)]) hx hb ddL_law_7 rfl hl (by decide) rfl (fun ls hl => ?_)
  refine va_new (ci := 5) (fs := [.null, .null, .null, .null, .int 0, .int 0, .int 0, .int 0, .int 0, .int 0, .null, .int 0, .int 0, .int 0, .null, .int 0, .int 0, .null, .int 0, .null, .int 0]) (C := RX5) (T := TX5) (N := 21) hx hb ht in_5 tyX5 tyX5_ok hown (ht _ lk1118) (ht _ lk1119) (ht _ lk6) hK hP hD hS hA rfl (fun j hj => by rcases (show j = 0 ∨ j = 1 ∨ j = 2 ∨ j = 3 ∨ j = 4 ∨ j = 5 ∨ j = 6 ∨ j = 7 ∨ j = 8 ∨ j = 9 ∨ j = 10 ∨ j = 11 ∨ j = 12 ∨ j = 13 ∨ j = 14 ∨ j = 15 ∨ j = 16 ∨ j = 17 ∨ j = 18 ∨ j = 19 ∨ j = 20 by omega) with rfl | rfl | rfl | rfl | rfl | rfl | rfl | rfl | rfl | rfl | rfl | rfl | rfl | rfl | rfl | rfl | rfl | rfl | rfl | rfl | rfl <;> rfl) (Nat.le_of_ble_eq_true rfl) (Nat.le_of_ble_eq_true rfl) ddL_law_8 (fun q1 H hP hD hS => ?_)
  have hP : va_P (gD X) cls [(q0, .inr (0, [.ref (u 1), .ref (u 4), .ref (u 15), .ref (u 19), .ref (u 23), .int 0, .ref (u 24), .int 0, .int 0, .int 0, .int (-1 : Int32), .int (-1 : Int32)])), ((u 1), .inr (1, [.ref (u 2), .ref (u 3)])), ((u 2), .inl (gc X 0, 179, .inl (upd (fun _ => 0) 2 20))), ((u 3), .inl (gc X 0, 10, .inl (fun _ => 0))), ((u 4), .inr (2, [.ref (u 5), .int 0, .int 0])), ((u 5), .inl (gc X 2, 9, .inr (.inr (.inr (.inr (fun i => if i < 9 then some (u (6 + i)) else none)))))), ((u 6), .inl (gc X 0, 179, .inl (fun _ => 0))), ((u 7), .inl (gc X 0, 179, .inl (fun _ => 0))), ((u 8), .inl (gc X 0, 179, .inl (fun _ => 0))), ((u 9), .inl (gc X 0, 179, .inl (fun _ => 0))), ((u 10), .inl (gc X 0, 179, .inl (fun _ => 0))), ((u 11), .inl (gc X 0, 179, .inl (fun _ => 0))), ((u 12), .inl (gc X 0, 179, .inl (fun _ => 0))), ((u 13), .inl (gc X 0, 179, .inl (fun _ => 0))), ((u 14), .inl (gc X 0, 179, .inl (fun _ => 0))), ((u 15), .inr (3, [.ref (u 16), .ref (u 17), .int 0, .ref (u 18)])), ((u 16), .inl (gc X 0, 5, .inl (fun _ => 0))), ((u 17), .inl (gc X 0, 10, .inl (fun _ => 0))), ((u 18), .inl (gc X 0, 32, .inl (fun _ => 0))), ((u 19), .inr (4, [.ref (u 20), .int 0, .ref (u 21), .ref (u 22), .int 0, .int 0])), ((u 20), .inl (gc X 1, 60, .inl (fun _ => 0))), ((u 21), .inl (gc X 0, 9, .inl (fun _ => 0))), ((u 22), .inl (gc X 0, 27, .inl (fun _ => 0))), ((u 23), .inl (gc X 0, 179, .inl (fun _ => 0))), ((u 24), .inl (gc X 1, 28, .inl (fun _ => 0))), (q1, .inr (5, [.null, .null, .null, .null, .int 0, .int 0, .int 0, .int 0, .int 0, .int 0, .null, .int 0, .int 0, .int 0, .null, .int 0, .int 0, .null, .int 0, .null, .int 0]))] H := hP
  have hD : va_D (fun q : Nat => s.heap.size ≤ q) [(q0, .inr (0, [.ref (u 1), .ref (u 4), .ref (u 15), .ref (u 19), .ref (u 23), .int 0, .ref (u 24), .int 0, .int 0, .int 0, .int (-1 : Int32), .int (-1 : Int32)])), ((u 1), .inr (1, [.ref (u 2), .ref (u 3)])), ((u 2), .inl (gc X 0, 179, .inl (upd (fun _ => 0) 2 20))), ((u 3), .inl (gc X 0, 10, .inl (fun _ => 0))), ((u 4), .inr (2, [.ref (u 5), .int 0, .int 0])), ((u 5), .inl (gc X 2, 9, .inr (.inr (.inr (.inr (fun i => if i < 9 then some (u (6 + i)) else none)))))), ((u 6), .inl (gc X 0, 179, .inl (fun _ => 0))), ((u 7), .inl (gc X 0, 179, .inl (fun _ => 0))), ((u 8), .inl (gc X 0, 179, .inl (fun _ => 0))), ((u 9), .inl (gc X 0, 179, .inl (fun _ => 0))), ((u 10), .inl (gc X 0, 179, .inl (fun _ => 0))), ((u 11), .inl (gc X 0, 179, .inl (fun _ => 0))), ((u 12), .inl (gc X 0, 179, .inl (fun _ => 0))), ((u 13), .inl (gc X 0, 179, .inl (fun _ => 0))), ((u 14), .inl (gc X 0, 179, .inl (fun _ => 0))), ((u 15), .inr (3, [.ref (u 16), .ref (u 17), .int 0, .ref (u 18)])), ((u 16), .inl (gc X 0, 5, .inl (fun _ => 0))), ((u 17), .inl (gc X 0, 10, .inl (fun _ => 0))), ((u 18), .inl (gc X 0, 32, .inl (fun _ => 0))), ((u 19), .inr (4, [.ref (u 20), .int 0, .ref (u 21), .ref (u 22), .int 0, .int 0])), ((u 20), .inl (gc X 1, 60, .inl (fun _ => 0))), ((u 21), .inl (gc X 0, 9, .inl (fun _ => 0))), ((u 22), .inl (gc X 0, 27, .inl (fun _ => 0))), ((u 23), .inl (gc X 0, 179, .inl (fun _ => 0))), ((u 24), .inl (gc X 1, 28, .inl (fun _ => 0))), (q1, .inr (5, [.null, .null, .null, .null, .int 0, .int 0, .int 0, .int 0, .int 0, .int 0, .null, .int 0, .int 0, .int 0, .null, .int 0, .int 0, .null, .int 0, .null, .int 0]))] := hD
  refine W.widen (k := 26) (n := 2207) (Nat.le_of_ble_eq_true rfl) (Nat.le_of_ble_eq_true rfl) ?_
  refine lv_dup hx hb ddL_law_11 rfl ?_
  have hPc := hP.sub (ws' := [(q1, .inr (5, [.null, .null, .null, .null, .int 0, .int 0, .int 0, .int 0, .int 0, .int 0, .null, .int 0, .int 0, .int 0, .null, .int 0, .int 0, .null, .int 0, .null, .int 0]))]) [25] rfl
  have hDc := hD.sub (ws' := [(q1, .inr (5, [.null, .null, .null, .null, .int 0, .int 0, .int 0, .int 0, .int 0, .int 0, .null, .int 0, .int 0, .int 0, .null, .int 0, .int 0, .null, .int 0, .null, .int 0]))]) [25] (by decide) rfl
  have hFc := va_free (wc := [(q1, .inr (5, [.null, .null, .null, .null, .int 0, .int 0, .int 0, .int 0, .int 0, .int 0, .null, .int 0, .int 0, .int 0, .null, .int 0, .int 0, .null, .int 0, .null, .int 0]))]) hD hS hA [25] rfl
  refine va_callv (va_runI (As := []) (rest := [.ref q1]) ⟨hx, hb, hml, hown, ht⟩ (c_X5_init l X q1 H.size) ⟨kx_callB mfi_X5_init ht lk1120 ⟨rfl, rfl⟩ ⟨Nat.le_of_ble_eq_true rfl, Nat.le_of_ble_eq_true rfl⟩, rfl, ht _ lk1121⟩ ⟨cp_blind _ _ _, fun U hU hW => ⟨rfl, by rw [hU], by rw [hU]; exact hPc, va_K.moved hW.alike hK, hDc.weaken (fun _ _ _ _ => trivial), hN.warm hW⟩⟩ rfl rfl hl.1 rfl (lv_room (Nat.le_of_ble_eq_true rfl)) ddL_law_12 ⟨Nat.le_of_ble_eq_true rfl, Nat.le_of_ble_eq_true rfl⟩) hS (fun q _ h => hFc q h) hFc (fun v t H1 locs ht9 hvm hw hB hz1 hk1 hS => ?_)
  obtain ⟨hP1, hK1, hD1⟩ := hB
  rw [ht9] at hP1
  obtain ⟨hP, hD⟩ := va_join (wr := [(q0, .inr (0, [.ref (u 1), .ref (u 4), .ref (u 15), .ref (u 19), .ref (u 23), .int 0, .ref (u 24), .int 0, .int 0, .int 0, .int (-1 : Int32), .int (-1 : Int32)])), ((u 1), .inr (1, [.ref (u 2), .ref (u 3)])), ((u 2), .inl (gc X 0, 179, .inl (upd (fun _ => 0) 2 20))), ((u 3), .inl (gc X 0, 10, .inl (fun _ => 0))), ((u 4), .inr (2, [.ref (u 5), .int 0, .int 0])), ((u 5), .inl (gc X 2, 9, .inr (.inr (.inr (.inr (fun i => if i < 9 then some (u (6 + i)) else none)))))), ((u 6), .inl (gc X 0, 179, .inl (fun _ => 0))), ((u 7), .inl (gc X 0, 179, .inl (fun _ => 0))), ((u 8), .inl (gc X 0, 179, .inl (fun _ => 0))), ((u 9), .inl (gc X 0, 179, .inl (fun _ => 0))), ((u 10), .inl (gc X 0, 179, .inl (fun _ => 0))), ((u 11), .inl (gc X 0, 179, .inl (fun _ => 0))), ((u 12), .inl (gc X 0, 179, .inl (fun _ => 0))), ((u 13), .inl (gc X 0, 179, .inl (fun _ => 0))), ((u 14), .inl (gc X 0, 179, .inl (fun _ => 0))), ((u 15), .inr (3, [.ref (u 16), .ref (u 17), .int 0, .ref (u 18)])), ((u 16), .inl (gc X 0, 5, .inl (fun _ => 0))), ((u 17), .inl (gc X 0, 10, .inl (fun _ => 0))), ((u 18), .inl (gc X 0, 32, .inl (fun _ => 0))), ((u 19), .inr (4, [.ref (u 20), .int 0, .ref (u 21), .ref (u 22), .int 0, .int 0])), ((u 20), .inl (gc X 1, 60, .inl (fun _ => 0))), ((u 21), .inl (gc X 0, 9, .inl (fun _ => 0))), ((u 22), .inl (gc X 0, 27, .inl (fun _ => 0))), ((u 23), .inl (gc X 0, 179, .inl (fun _ => 0))), ((u 24), .inl (gc X 1, 28, .inl (fun _ => 0)))]) (w1 := [(q1, .inr (5, [.ref (v 1), .ref (v 2), .ref (v 3), .ref (v 4), .int 0, .int 0, .int 0, .int 0, .int 0, .int 0, .ref (v 5), .int 0, .int (-1 : Int32), .int (-1 : Int32), .ref (v 6), .int 0, .int 0, .ref (v 7), .int 0, .ref (v 8), .int 0])), ((v 1), .inl (gc X 0, 179, .inl (g0 140))), ((v 2), .inl (gc X 0, 1432, .inl (fun _ => 0))), ((v 3), .inl (gc X 0, 179, .inl (fun _ => 0))), ((v 4), .inl (gc X 0, 179, .inl (fun _ => 0))), ((v 5), .inl (gc X 0, 60, .inl (fun _ => 0))), ((v 6), .inl (gc X 1, 60, .inl (fun _ => 0))), ((v 7), .inl (gc X 0, 32, .inl (fun _ => 0))), ((v 8), .inl (gc X 0, 124, .inl (fun _ => 0)))]) hP hD [25] [0, 1, 2, 3, 4, 5, 6, 7, 8, 9, 10, 11, 12, 13, 14, 15, 16, 17, 18, 19, 20, 21, 22, 23, 24] rfl rfl (by decide) (by decide) hk1 hFc hP1 hD1
  generalize H1 = H at hP hS ⊢
  have hP : va_P (gD X) cls [(q0, .inr (0, [.ref (u 1), .ref (u 4), .ref (u 15), .ref (u 19), .ref (u 23), .int 0, .ref (u 24), .int 0, .int 0, .int 0, .int (-1 : Int32), .int (-1 : Int32)])), ((u 1), .inr (1, [.ref (u 2), .ref (u 3)])), ((u 2), .inl (gc X 0, 179, .inl (upd (fun _ => 0) 2 20))), ((u 3), .inl (gc X 0, 10, .inl (fun _ => 0))), ((u 4), .inr (2, [.ref (u 5), .int 0, .int 0])), ((u 5), .inl (gc X 2, 9, .inr (.inr (.inr (.inr (fun i => if i < 9 then some (u (6 + i)) else none)))))), ((u 6), .inl (gc X 0, 179, .inl (fun _ => 0))), ((u 7), .inl (gc X 0, 179, .inl (fun _ => 0))), ((u 8), .inl (gc X 0, 179, .inl (fun _ => 0))), ((u 9), .inl (gc X 0, 179, .inl (fun _ => 0))), ((u 10), .inl (gc X 0, 179, .inl (fun _ => 0))), ((u 11), .inl (gc X 0, 179, .inl (fun _ => 0))), ((u 12), .inl (gc X 0, 179, .inl (fun _ => 0))), ((u 13), .inl (gc X 0, 179, .inl (fun _ => 0))), ((u 14), .inl (gc X 0, 179, .inl (fun _ => 0))), ((u 15), .inr (3, [.ref (u 16), .ref (u 17), .int 0, .ref (u 18)])), ((u 16), .inl (gc X 0, 5, .inl (fun _ => 0))), ((u 17), .inl (gc X 0, 10, .inl (fun _ => 0))), ((u 18), .inl (gc X 0, 32, .inl (fun _ => 0))), ((u 19), .inr (4, [.ref (u 20), .int 0, .ref (u 21), .ref (u 22), .int 0, .int 0])), ((u 20), .inl (gc X 1, 60, .inl (fun _ => 0))), ((u 21), .inl (gc X 0, 9, .inl (fun _ => 0))), ((u 22), .inl (gc X 0, 27, .inl (fun _ => 0))), ((u 23), .inl (gc X 0, 179, .inl (fun _ => 0))), ((u 24), .inl (gc X 1, 28, .inl (fun _ => 0))), (q1, .inr (5, [.ref (v 1), .ref (v 2), .ref (v 3), .ref (v 4), .int 0, .int 0, .int 0, .int 0, .int 0, .int 0, .ref (v 5), .int 0, .int (-1 : Int32), .int (-1 : Int32), .ref (v 6), .int 0, .int 0, .ref (v 7), .int 0, .ref (v 8), .int 0])), ((v 1), .inl (gc X 0, 179, .inl (g0 140))), ((v 2), .inl (gc X 0, 1432, .inl (fun _ => 0))), ((v 3), .inl (gc X 0, 179, .inl (fun _ => 0))), ((v 4), .inl (gc X 0, 179, .inl (fun _ => 0))), ((v 5), .inl (gc X 0, 60, .inl (fun _ => 0))), ((v 6), .inl (gc X 1, 60, .inl (fun _ => 0))), ((v 7), .inl (gc X 0, 32, .inl (fun _ => 0))), ((v 8), .inl (gc X 0, 124, .inl (fun _ => 0)))] H := hP
  have hD : va_D (fun q : Nat => s.heap.size ≤ q) [(q0, .inr (0, [.ref (u 1), .ref (u 4), .ref (u 15), .ref (u 19), .ref (u 23), .int 0, .ref (u 24), .int 0, .int 0, .int 0, .int (-1 : Int32), .int (-1 : Int32)])), ((u 1), .inr (1, [.ref (u 2), .ref (u 3)])), ((u 2), .inl (gc X 0, 179, .inl (upd (fun _ => 0) 2 20))), ((u 3), .inl (gc X 0, 10, .inl (fun _ => 0))), ((u 4), .inr (2, [.ref (u 5), .int 0, .int 0])), ((u 5), .inl (gc X 2, 9, .inr (.inr (.inr (.inr (fun i => if i < 9 then some (u (6 + i)) else none)))))), ((u 6), .inl (gc X 0, 179, .inl (fun _ => 0))), ((u 7), .inl (gc X 0, 179, .inl (fun _ => 0))), ((u 8), .inl (gc X 0, 179, .inl (fun _ => 0))), ((u 9), .inl (gc X 0, 179, .inl (fun _ => 0))), ((u 10), .inl (gc X 0, 179, .inl (fun _ => 0))), ((u 11), .inl (gc X 0, 179, .inl (fun _ => 0))), ((u 12), .inl (gc X 0, 179, .inl (fun _ => 0))), ((u 13), .inl (gc X 0, 179, .inl (fun _ => 0))), ((u 14), .inl (gc X 0, 179, .inl (fun _ => 0))), ((u 15), .inr (3, [.ref (u 16), .ref (u 17), .int 0, .ref (u 18)])), ((u 16), .inl (gc X 0, 5, .inl (fun _ => 0))), ((u 17), .inl (gc X 0, 10, .inl (fun _ => 0))), ((u 18), .inl (gc X 0, 32, .inl (fun _ => 0))), ((u 19), .inr (4, [.ref (u 20), .int 0, .ref (u 21), .ref (u 22), .int 0, .int 0])), ((u 20), .inl (gc X 1, 60, .inl (fun _ => 0))), ((u 21), .inl (gc X 0, 9, .inl (fun _ => 0))), ((u 22), .inl (gc X 0, 27, .inl (fun _ => 0))), ((u 23), .inl (gc X 0, 179, .inl (fun _ => 0))), ((u 24), .inl (gc X 1, 28, .inl (fun _ => 0))), (q1, .inr (5, [.ref (v 1), .ref (v 2), .ref (v 3), .ref (v 4), .int 0, .int 0, .int 0, .int 0, .int 0, .int 0, .ref (v 5), .int 0, .int (-1 : Int32), .int (-1 : Int32), .ref (v 6), .int 0, .int 0, .ref (v 7), .int 0, .ref (v 8), .int 0])), ((v 1), .inl (gc X 0, 179, .inl (g0 140))), ((v 2), .inl (gc X 0, 1432, .inl (fun _ => 0))), ((v 3), .inl (gc X 0, 179, .inl (fun _ => 0))), ((v 4), .inl (gc X 0, 179, .inl (fun _ => 0))), ((v 5), .inl (gc X 0, 60, .inl (fun _ => 0))), ((v 6), .inl (gc X 1, 60, .inl (fun _ => 0))), ((v 7), .inl (gc X 0, 32, .inl (fun _ => 0))), ((v 8), .inl (gc X 0, 124, .inl (fun _ => 0)))] := hD
  refine W.widen (k := 34) (n := 4452) (Nat.le_of_ble_eq_true rfl) (Nat.le_of_ble_eq_true rfl) ?_
  refine lv_astore_n (lv' := [(2, .ref q1), (1, .ref q0), (0, .ref b)]) hx hb ddL_law_15 rfl hl (by decide) rfl (fun ls hl => ?_)
  refine lv_iconst (v := (1 : Int32)) hx hb ddL_law_16 (by decide) ?_
  refine va_newa (atype := .long) (a0 := (1, .inr (.inl (fun _ => 0)))) hx hb (ht _ lk1550) rfl hK hP hD hS hA (fun _ => rfl) (by decide) rfl (Nat.le_of_ble_eq_true rfl) (Nat.le_of_ble_eq_true rfl) (Nat.le_of_ble_eq_true rfl) ddL_law_17 (fun q2 cA H hK9 hP hD hS => ?_)
  obtain rfl : cA = gc X 3 := arr_3 hK hK9
  refine lv_astore_n (lv' := [(3, .ref q2), (2, .ref q1), (1, .ref q0), (0, .ref b)]) hx hb ddL_law_19 rfl hl (by decide) rfl (fun ls hl => ?_)
  refine lv_iconst (v := (1 : Int32)) hx hb ddL_law_20 (by decide) ?_
  refine va_newa (atype := .double) (a0 := (1, .inr (.inr (.inr (.inl (fun _ => 0)))))) hx hb (ht _ lk1551) rfl hK hP hD hS hA (fun _ => rfl) (by decide) rfl (Nat.le_of_ble_eq_true rfl) (Nat.le_of_ble_eq_true rfl) (Nat.le_of_ble_eq_true rfl) ddL_law_21 (fun q3 cA H hK9 hP hD hS => ?_)
  obtain rfl : cA = gc X 4 := arr_4 hK hK9
  refine lv_astore (lv' := [(4, .ref q3), (3, .ref q2), (2, .ref q1), (1, .ref q0), (0, .ref b)]) hx hb ddL_law_23 hl (by decide) rfl (fun ls hl => ?_)
  refine lv_iconst (v := (0 : Int32)) hx hb ddL_law_25 (by decide) ?_
  refine lv_istore (lv' := [(5, .int 0), (4, .ref q3), (3, .ref q2), (2, .ref q1), (1, .ref q0), (0, .ref b)]) hx hb ddL_law_26 hl (by decide) rfl (fun ls hl => ?_)
  generalize hX1 : (((D, fun k => [q0, u 1, u 2, u 3, u 4, u 5, u 6, u 7, u 8, u 9, u 10, u 11, u 12, u 13, u 14, u 15, u 16, u 17, u 18, u 19, u 20, u 21, u 22, u 23, u 24, q1, v 1, v 2, v 3, v 4, v 5, v 6, v 7, v 8, q2, q3].getD k 0), gcc, gk, gv) : GX) = Y
  have hKY : va_K (gD Y) cls (tysW Y) s := by rw [← hX1]; exact hKK _ _ _
  have hZY : ZF Y (fun q : Nat => s.heap.size ≤ q) s s.heap := by rw [← hX1]; exact hZZ _ _ _
  have hSY : WS Y (fun q : Nat => s.heap.size ≤ q) s.heap σ0 H locs := by
    subst hX0
    subst hX1
    refine ⟨?_, va_D_fst hD rfl, hS⟩
    unfold wW
    rw [dv0, lv0]
    exact va_P_mid (l1 := [(q0, .inr (0, [.ref (u 1), .ref (u 4), .ref (u 15), .ref (u 19), .ref (u 23), .int 0, .ref (u 24), .int 0, .int 0, .int 0, .int (-1 : Int32), .int (-1 : Int32)])), ((u 1), .inr (1, [.ref (u 2), .ref (u 3)])), ((u 2), .inl (gcc 0, 179, .inl (upd (fun _ => 0) 2 20))), ((u 3), .inl (gcc 0, 10, .inl (fun _ => 0))), ((u 4), .inr (2, [.ref (u 5), .int 0, .int 0]))]) (x := ((u 5), .inl (gcc 2, 9, .inr (.inr (.inr (.inr (fun i => if i < 9 then some (u (6 + i)) else none))))))) (l2 := [((u 6), .inl (gcc 0, 179, .inl (fun _ => 0))), ((u 7), .inl (gcc 0, 179, .inl (fun _ => 0))), ((u 8), .inl (gcc 0, 179, .inl (fun _ => 0))), ((u 9), .inl (gcc 0, 179, .inl (fun _ => 0))), ((u 10), .inl (gcc 0, 179, .inl (fun _ => 0))), ((u 11), .inl (gcc 0, 179, .inl (fun _ => 0))), ((u 12), .inl (gcc 0, 179, .inl (fun _ => 0))), ((u 13), .inl (gcc 0, 179, .inl (fun _ => 0))), ((u 14), .inl (gcc 0, 179, .inl (fun _ => 0))), ((u 15), .inr (3, [.ref (u 16), .ref (u 17), .int 0, .ref (u 18)])), ((u 16), .inl (gcc 0, 5, .inl (fun _ => 0))), ((u 17), .inl (gcc 0, 10, .inl (fun _ => 0))), ((u 18), .inl (gcc 0, 32, .inl (fun _ => 0))), ((u 19), .inr (4, [.ref (u 20), .int 0, .ref (u 21), .ref (u 22), .int 0, .int 0])), ((u 20), .inl (gcc 1, 60, .inl (fun _ => 0))), ((u 21), .inl (gcc 0, 9, .inl (fun _ => 0))), ((u 22), .inl (gcc 0, 27, .inl (fun _ => 0))), ((u 23), .inl (gcc 0, 179, .inl (fun _ => 0))), ((u 24), .inl (gcc 1, 28, .inl (fun _ => 0))), (q1, .inr (5, [.ref (v 1), .ref (v 2), .ref (v 3), .ref (v 4), .int 0, .int 0, .int 0, .int 0, .int 0, .int 0, .ref (v 5), .int 0, .int (-1 : Int32), .int (-1 : Int32), .ref (v 6), .int 0, .int 0, .ref (v 7), .int 0, .ref (v 8), .int 0])), ((v 1), .inl (gcc 0, 179, .inl (g0 140))), ((v 2), .inl (gcc 0, 1432, .inl (fun _ => 0))), ((v 3), .inl (gcc 0, 179, .inl (fun _ => 0))), ((v 4), .inl (gcc 0, 179, .inl (fun _ => 0))), ((v 5), .inl (gcc 0, 60, .inl (fun _ => 0))), ((v 6), .inl (gcc 1, 60, .inl (fun _ => 0))), ((v 7), .inl (gcc 0, 32, .inl (fun _ => 0))), ((v 8), .inl (gcc 0, 124, .inl (fun _ => 0))), (q2, .inl (gcc 3, 1, .inr (.inl (fun _ => 0)))), (q3, .inl (gcc 4, 1, .inr (.inr (.inr (.inl (fun _ => 0))))))]) hP (row9_at (fun i hi => by
      rw [if_pos hi]
      rcases (show i = 0 ∨ i = 1 ∨ i = 2 ∨ i = 3 ∨ i = 4 ∨ i = 5 ∨ i = 6 ∨ i = 7 ∨ i = 8 by omega) with rfl | rfl | rfl | rfl | rfl | rfl | rfl | rfl | rfl <;> rfl))
  have hC : LC l Y p s m meth c (fun q : Nat => s.heap.size ≤ q) b L xs := ⟨hx, hb, hml, hown, ht, hKY, hZY, hA, hY, hX, hbl, hbA, hfl⟩
  refine W.widen (k := 100 + 3 * 0) (n := 10000 + 18 * 0) (Nat.le_of_ble_eq_true rfl) (Nat.le_of_ble_eq_true rfl) ?_
  refine law_loop hC hr hlocks hL Inv hstep (L + 1) 0 (Nat.zero_le L) (by omega) σ0 _ _ ls hinit hSY ?_
  subst hX1
  exact lv_sub hl [5, 4, 3, 2, 1, 0] rfl
