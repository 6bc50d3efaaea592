section LW
variable {p : Program} {l : Launch} {e : Env} {R : Room} {s : State} {m : MethodId} {args : Array Value} {below : List Frame} {meth : Method} {c : Code} {H : Heap} {locs : List Loc} {cells slots : Nat} {Q : State → Prop}
variable {cc : ByteArray} {pc : Nat} {ls : Array Slot} {A : Nat → Prop} {X : GX} {σ : Mem}
theorem gzW {y : MethodName} {c : ByteArray} {n : Nat} {ret : Option FieldType} {hh : List (Nat × Nat × Nat × Nat)} (h : Cond.codeWith y c n ret hh ∈ gw) : GoodIn gw (wzW y c n ret hh) := fun w hw => by
  rcases List.mem_cons.mp hw with rfl | hw
  · exact ⟨h, gw_good _ h⟩
  · exact ⟨hw, gw_good _ hw⟩
def MFW (y : MethodName) (c : ByteArray) (n : Nat) (ret : Option FieldType) (hh : List (Nat × Nat × Nat × Nat)) (np : Nat) : Prop := Cond.codeWith y c n ret hh ∈ gw ∧ Cond.initialized y.cls ∈ gw ∧ (y.cls ≠ "java/lang/invoke/MethodHandle" ∧ y.cls ≠ "java/lang/invoke/VarHandle") ∧ (parseMethodDescriptor y.desc).map (fun d => d.parameters.length) = some np ∧ Cond.static y ∈ gw
theorem kw_SI {y : MethodName} {c' : ByteArray} {n' np idx nL mc' ms' : Nat} {ret' : Option FieldType} {hh : List (Nat × Nat × Nat × Nat)} {rm : Room} {own : String} {As rest st0 : List Value} {K : Int32 → Mem → Prop} (hM : MH l X y c' n' ret' hh rm mc' ms' As σ K) (hF : MFW y c' n' ret' hh np) (hlink : Cond.methodLink own idx y ∈ gw)
    (hx : p.tables.exec = Jvm.exec) (hb : c.code = cc) (hml : c.maxLocals = nL) (hown : s.vm.findClass own = some m.cls) (ht : ∀ w ∈ gw, w.before args s = true) (hK : va_K (gD X) cls (tysW X) s) (hZ : ZF X A s s.heap) (hS : WS X A s.heap σ H locs) (hA : ∀ q, s.heap.size ≤ q → A q) (hY : YF s)
    (hrc : rm.cells = mc' ∧ rm.slots = ms') (hR : rm.frames + 1 ≤ R.frames ∧ 8 + (n' + 11) + rm.locals ≤ R.locals) (hn : As.length = np) (hls : ls.size = nL) (hst : st0 = As.reverse ++ rest) (hcat : (rest.map fun v => v.category).sum ≤ 8) (hz : cells + mc' ≤ R.cells ∧ slots + ms' ≤ R.slots) (hdg : decode cc pc = .ok (.invokestatic idx, 3))
    (kk : ∀ (r : Int32) (σ : Mem) (H : Heap) (locs : List Loc), WS X A s.heap σ H locs → K r σ → W p l e R s m args below meth c H locs (cells + mc') (slots + ms') Q (F0 m (pc + 3) ls (.int r :: rest))) : W p l e R s m args below meth c H locs cells slots Q (F0 m pc ls st0) := by
  have hF9 := ws_free hS hA
  refine va_calli (vx_runSW (cc := cc) (nL := nL) (Ts := gw) (own := own) (rest := rest) ⟨hx, hb, hml, hown, ht⟩ (hM H.size) ⟨⟨hrc.1, hrc.2, hR.1, hR.2, pay_in ht (gzW hF.1), List.mem_cons_self⟩, ht _ hF.1, ht _ hF.2.1, hF.2.2.1, fun sig h => (by
    have h2 := hF.2.2.2.1
    rw [h] at h2
    exact (Option.some.inj h2).symm), ht _ hlink, ht _ hF.2.2.2.2⟩ ⟨ws_blindX _ _, fun U hU hW => ⟨rfl, ⟨by rw [hU], by rw [hU]; exact hS.1, va_K.moved hW.alike hK, hS.2.1.weaken (fun _ _ _ _ => trivial), hZ.call hS.2.2 (ws_free hS hA) hU hW⟩, hY.warm hW⟩⟩ rfl hn hls hst (lv_room hcat) hdg hz) hS.2.2 (fun q _ h => hF9 q h) hF9 (fun r u t H1 locs1 ht hvm hw hB hz1 hk1 hS1 => ?_)
  obtain ⟨hP1, hK1, hD1⟩ := hB
  rw [ht] at hP1
  exact kk r u H1 locs1 ⟨hP1, hD1.weaken (fun k q _ h => hF9 q.1 h), hS1⟩ hw
theorem k_VD {y : MethodName} {c' : ByteArray} {n' np idx nL : Nat} {ret' : Option FieldType} {rm : Room} {own : String} {b : Addr} {As rest st0 : List Value} {K : UInt64 → Mem → Prop} (hM : MD l X y c' n' ret' rm (.ref b :: As) σ K) (hF : MFV y c' n' ret' np) (hlink : Cond.methodLink own idx y ∈ gw)
    (hx : p.tables.exec = Jvm.exec) (hb : c.code = cc) (hml : c.maxLocals = nL) (hown : s.vm.findClass own = some m.cls) (ht : ∀ w ∈ gw, w.before args s = true) (hK : va_K (gD X) cls (tysW X) s) (hZ : ZF X A s s.heap) (hS : WS X A s.heap σ H locs) (hA : ∀ q, s.heap.size ≤ q → A q) (q0 ci : Nat) {C : vw_C} {fs : List Value} (hci : cls[ci]? = some C) (hC : C.1 = y.cls) (he : (wW X σ)[q0]? = some (b, .inr (ci, fs)))
    (hrc : rm.cells = 0 ∧ rm.slots = 0) (hR : rm.frames + 1 ≤ R.frames ∧ 8 + (n' + 11) + rm.locals ≤ R.locals) (hn : As.length = np) (hls : ls.size = nL) (hst : st0 = As.reverse ++ .ref b :: rest) (hcat : (rest.map fun v => v.category).sum ≤ 8) (hz : cells ≤ R.cells ∧ slots ≤ R.slots) (hdg : decode cc pc = .ok (.invokevirtual idx, 3))
    (kk : ∀ (r : UInt64) (σ : Mem) (H : Heap) (locs : List Loc), WS X A s.heap σ H locs → K r σ → W p l e R s m args below meth c H locs cells slots Q (F0 m (pc + 3) ls (.double r :: rest))) : W p l e R s m args below meth c H locs cells slots Q (F0 m pc ls st0) := by
  have hF9 := ws_free hS hA
  refine va_calld (k_runV (hM H.size) hF hlink hx hb hml hown ht hK hZ hS hA q0 ci hci hC he hrc hR hn hls hst hcat hz hdg) hS.2.2 (fun q _ h => hF9 q h) hF9 (fun r u t H1 locs1 ht hvm hw hB hz1 hk1 hS1 => ?_)
  obtain ⟨hP1, hK1, hD1⟩ := hB
  rw [ht] at hP1
  exact kk r u H1 locs1 ⟨hP1, hD1.weaken (fun k q _ h => hF9 q.1 h), hS1⟩ hw
theorem k_VF {y : MethodName} {c' : ByteArray} {n' np idx nL : Nat} {ret' : Option FieldType} {rm : Room} {own : String} {b : Addr} {As rest st0 : List Value} {K : UInt32 → Mem → Prop} (hM : MFl l X y c' n' ret' rm (.ref b :: As) σ K) (hF : MFV y c' n' ret' np) (hlink : Cond.methodLink own idx y ∈ gw)
    (hx : p.tables.exec = Jvm.exec) (hb : c.code = cc) (hml : c.maxLocals = nL) (hown : s.vm.findClass own = some m.cls) (ht : ∀ w ∈ gw, w.before args s = true) (hK : va_K (gD X) cls (tysW X) s) (hZ : ZF X A s s.heap) (hS : WS X A s.heap σ H locs) (hA : ∀ q, s.heap.size ≤ q → A q) (q0 ci : Nat) {C : vw_C} {fs : List Value} (hci : cls[ci]? = some C) (hC : C.1 = y.cls) (he : (wW X σ)[q0]? = some (b, .inr (ci, fs)))
    (hrc : rm.cells = 0 ∧ rm.slots = 0) (hR : rm.frames + 1 ≤ R.frames ∧ 8 + (n' + 11) + rm.locals ≤ R.locals) (hn : As.length = np) (hls : ls.size = nL) (hst : st0 = As.reverse ++ .ref b :: rest) (hcat : (rest.map fun v => v.category).sum ≤ 8) (hz : cells ≤ R.cells ∧ slots ≤ R.slots) (hdg : decode cc pc = .ok (.invokevirtual idx, 3))
    (kk : ∀ (r : UInt32) (σ : Mem) (H : Heap) (locs : List Loc), WS X A s.heap σ H locs → K r σ → W p l e R s m args below meth c H locs cells slots Q (F0 m (pc + 3) ls (.float r :: rest))) : W p l e R s m args below meth c H locs cells slots Q (F0 m pc ls st0) := by
  have hF9 := ws_free hS hA
  refine va_callf (k_runV (hM H.size) hF hlink hx hb hml hown ht hK hZ hS hA q0 ci hci hC he hrc hR hn hls hst hcat hz hdg) hS.2.2 (fun q _ h => hF9 q h) hF9 (fun r u t H1 locs1 ht hvm hw hB hz1 hk1 hS1 => ?_)
  obtain ⟨hP1, hK1, hD1⟩ := hB
  rw [ht] at hP1
  exact kk r u H1 locs1 ⟨hP1, hD1.weaken (fun k q _ h => hF9 q.1 h), hS1⟩ hw
theorem hz_le {a b a1 b1 ra rb a2 b2 : Nat} (h : a + a1 ≤ ra ∧ b + b1 ≤ rb) (h2 : a2 ≤ a1 ∧ b2 ≤ b1) : a + a2 ≤ ra ∧ b + b2 ≤ rb := ⟨Nat.le_trans (Nat.add_le_add_left h2.1 a) h.1, Nat.le_trans (Nat.add_le_add_left h2.2 b) h.2⟩
theorem lald_34 (hx : p.tables.exec = Jvm.exec) (hb : c.code = cc) (hK : va_K (gD X) cls (tysW X) s) (hS : WS X A s.heap σ H locs) {rest : List Value} (hdg : decode cc pc = .ok (.laload, 1)) (kk : W p l e R s m args below meth c H locs cells slots Q (F0 m (pc + 1) ls (.long (σ 34 0).toInt64 :: rest))) : W p l e R s m args below meth c H locs cells slots Q (F0 m pc ls (.int 0 :: .ref (ga X 34) :: rest)) :=
  va_lald hx hb hK hS.1 34 3 rfl rfl (by unfold vp_in; decide) hdg kk
theorem dald_35 (hx : p.tables.exec = Jvm.exec) (hb : c.code = cc) (hK : va_K (gD X) cls (tysW X) s) (hS : WS X A s.heap σ H locs) {rest : List Value} (hdg : decode cc pc = .ok (.daload, 1)) (kk : W p l e R s m args below meth c H locs cells slots Q (F0 m (pc + 1) ls (.double (dval (σ 35 0) (σ 35 1) (σ 35 2)) :: rest))) : W p l e R s m args below meth c H locs cells slots Q (F0 m pc ls (.int 0 :: .ref (ga X 35) :: rest)) :=
  va_dald hx hb hK hS.1 35 4 rfl rfl (by unfold vp_in; decide) hdg kk
end LW
/-- what holds all through the law -/
def LC (l : Launch) (X : GX) (p : Program) (s : State) (m : MethodId) (meth : Method) (c : Code) (A : Nat → Prop) (b L : Nat) (xs : Nat → Int32) : Prop :=
  p.tables.exec = Jvm.exec ∧ c.code = code ∧ c.maxLocals = 9 ∧ s.vm.findClass "GuardRosterLaw" = some m.cls ∧ (∀ w ∈ gw, w.before #[Value.ref b] s = true) ∧ va_K (gD X) cls (tysW X) s ∧ ZF X A s s.heap ∧ (∀ q, s.heap.size ≤ q → A q) ∧ YF s ∧ va_X b L xs s s.heap ∧ b < s.heap.size ∧ ¬ A b ∧ l.stackTraces = false
/-- the call's ints lie in the script -/
def LJ (x5 : Int32) (L : Nat) (xs : Nat → Int32) (a1 a2 a3 a4 : Int32) : Prop :=
  vp_in x5 L ∧ vp_in (x5 + (1 : Int32)) L ∧ vp_in (x5 + (2 : Int32)) L ∧ vp_in (x5 + (3 : Int32)) L ∧ vp_in (x5 + (4 : Int32)) L ∧ xs (x5 + (1 : Int32)).toNatClampNeg = a1 ∧ xs (x5 + (2 : Int32)).toNatClampNeg = a2 ∧ xs (x5 + (3 : Int32)).toNatClampNeg = a3 ∧ xs (x5 + (4 : Int32)).toNatClampNeg = a4
/-- from the round's end on -/
def LE (p : Program) (l : Launch) (e : Env) (s : State) (m : MethodId) (below : List Frame) (meth : Method) (c : Code) (A : Nat → Prop) (X : GX) (b : Nat) (x5 : Int32) (Q : State → Prop) (B : Mem → Prop) (cells slots : Nat) : Prop :=
  ∀ (σ : Mem) (H : Heap) (locs : List Loc) (ls : Array Slot) (cells' slots' : Nat), cells' ≤ cells + 3 ∧ slots' ≤ slots + 18 → WS X A s.heap σ H locs → lv_has ls 9 [(0, .ref b), (1, .ref (ga X 0)), (2, .ref (ga X 25)), (3, .ref (ga X 34)), (4, .ref (ga X 35)), (5, .int x5)] → B σ → W p l e room_1 s m #[Value.ref b] below meth c H locs cells' slots' Q (F0 m 2646 ls [])
theorem mfw_L_addGate : MFW yL_addGate cL_addGate 4 ((Option.some Jvm.ClassFile.FieldType.int)) [(0, 9, 12, 13), (0, 9, 15, 15)] 3 := ⟨gw_t2 157 rfl rfl, gw_t1 0 rfl rfl, ⟨by decide, by decide⟩, by decide, gw_t2 156 rfl rfl⟩
theorem mfw_L_addGuard : MFW yL_addGuard cL_addGuard 4 ((Option.some Jvm.ClassFile.FieldType.int)) [(0, 9, 12, 13), (0, 9, 15, 15)] 3 := ⟨gw_t3 21 rfl rfl, gw_t1 0 rfl rfl, ⟨by decide, by decide⟩, by decide, gw_t3 20 rfl rfl⟩
theorem mfw_L_neededRank : MFW yL_neededRank cL_neededRank 4 ((Option.some Jvm.ClassFile.FieldType.int)) [(0, 9, 12, 23)] 3 := ⟨gw_t3 36 rfl rfl, gw_t1 0 rfl rfl, ⟨by decide, by decide⟩, by decide, gw_t3 35 rfl rfl⟩
theorem mfw_L_rank : MFW yL_rank cL_rank 4 ((Option.some Jvm.ClassFile.FieldType.int)) [(0, 9, 12, 23)] 3 := ⟨gw_t3 67 rfl rfl, gw_t1 0 rfl rfl, ⟨by decide, by decide⟩, by decide, gw_t3 66 rfl rfl⟩
theorem mfw_L_faints : MFW yL_faints cL_faints 4 ((Option.some Jvm.ClassFile.FieldType.int)) [(0, 9, 12, 23)] 3 := ⟨gw_t3 81 rfl rfl, gw_t1 0 rfl rfl, ⟨by decide, by decide⟩, by decide, gw_t3 80 rfl rfl⟩
theorem mfw_L_assign : MFW yL_assign cL_assign 6 ((Option.some Jvm.ClassFile.FieldType.int)) [(0, 12, 15, 23), (0, 12, 19, 15), (0, 12, 23, 35)] 5 := ⟨gw_t3 92 rfl rfl, gw_t1 0 rfl rfl, ⟨by decide, by decide⟩, by decide, gw_t3 91 rfl rfl⟩
theorem mfw_L_canAssign : MFW yL_canAssign cL_canAssign 6 ((Option.some Jvm.ClassFile.FieldType.int)) [(0, 19, 22, 23)] 5 := ⟨gw_t3 129 rfl rfl, gw_t1 0 rfl rfl, ⟨by decide, by decide⟩, by decide, gw_t3 128 rfl rfl⟩
theorem mfw_L_remove : MFW yL_remove cL_remove 5 ((Option.some Jvm.ClassFile.FieldType.int)) [(0, 10, 13, 23), (0, 10, 17, 15), (0, 10, 21, 45)] 4 := ⟨gw_t3 136 rfl rfl, gw_t1 0 rfl rfl, ⟨by decide, by decide⟩, by decide, gw_t3 135 rfl rfl⟩
theorem mfw_L_exchange : MFW yL_exchange cL_exchange 7 ((Option.some Jvm.ClassFile.FieldType.int)) [(0, 14, 17, 23), (0, 14, 21, 13), (0, 14, 25, 15), (0, 14, 29, 45), (0, 14, 33, 35)] 6 := ⟨gw_t3 149 rfl rfl, gw_t1 0 rfl rfl, ⟨by decide, by decide⟩, by decide, gw_t3 148 rfl rfl⟩
theorem mfw_L_fillSlot : MFW yL_fillSlot cL_fillSlot 4 ((Option.some Jvm.ClassFile.FieldType.int)) [(0, 9, 12, 23), (0, 9, 15, 15)] 3 := ⟨gw_t3 164 rfl rfl, gw_t1 0 rfl rfl, ⟨by decide, by decide⟩, by decide, gw_t3 163 rfl rfl⟩
theorem mfw_L_guardAt : MFW yL_guardAt cL_guardAt 5 ((Option.some Jvm.ClassFile.FieldType.int)) [(0, 10, 13, 23), (0, 10, 17, 45)] 4 := ⟨gw_t3 194 rfl rfl, gw_t1 0 rfl rfl, ⟨by decide, by decide⟩, by decide, gw_t3 193 rfl rfl⟩
theorem mfw_L_gateOf : MFW yL_gateOf cL_gateOf 5 ((Option.some Jvm.ClassFile.FieldType.int)) [(0, 10, 13, 23), (0, 10, 17, 45)] 4 := ⟨gw_t3 203 rfl rfl, gw_t1 0 rfl rfl, ⟨by decide, by decide⟩, by decide, gw_t3 202 rfl rfl⟩
theorem mfw_L_dutiesOf : MFW yL_dutiesOf cL_dutiesOf 4 ((Option.some Jvm.ClassFile.FieldType.int)) [(0, 9, 12, 23)] 3 := ⟨gw_t3 216 rfl rfl, gw_t1 0 rfl rfl, ⟨by decide, by decide⟩, by decide, gw_t3 215 rfl rfl⟩
theorem mfw_L_openGates : MFW yL_openGates cL_openGates 4 ((Option.some Jvm.ClassFile.FieldType.int)) [(0, 9, 12, 23)] 3 := ⟨gw_t3 223 rfl rfl, gw_t1 0 rfl rfl, ⟨by decide, by decide⟩, by decide, gw_t3 222 rfl rfl⟩
theorem mfw_L_mostDuties : MFW yL_mostDuties cL_mostDuties 4 ((Option.some Jvm.ClassFile.FieldType.int)) [(0, 9, 12, 23)] 3 := ⟨gw_t3 230 rfl rfl, gw_t1 0 rfl rfl, ⟨by decide, by decide⟩, by decide, gw_t3 229 rfl rfl⟩
theorem mfw_L_mostDutiesBySets : MFW yL_mostDutiesBySets cL_mostDutiesBySets 4 ((Option.some Jvm.ClassFile.FieldType.int)) [(0, 9, 12, 23)] 3 := ⟨gw_t3 234 rfl rfl, gw_t1 0 rfl rfl, ⟨by decide, by decide⟩, by decide, gw_t3 233 rfl rfl⟩
theorem mfw_L_nextDuty : MFW yL_nextDuty cL_nextDuty 4 ((Option.some Jvm.ClassFile.FieldType.int)) [(0, 9, 12, 23), (0, 9, 15, 45)] 3 := ⟨gw_t3 238 rfl rfl, gw_t1 0 rfl rfl, ⟨by decide, by decide⟩, by decide, gw_t3 237 rfl rfl⟩
theorem mfw_L_longestRest : MFW yL_longestRest cL_longestRest 4 ((Option.some Jvm.ClassFile.FieldType.int)) [(0, 9, 12, 23)] 3 := ⟨gw_t4 10 rfl rfl, gw_t1 0 rfl rfl, ⟨by decide, by decide⟩, by decide, gw_t4 9 rfl rfl⟩
theorem mfw_L_guardByDuties : MFW yL_guardByDuties cL_guardByDuties 4 ((Option.some Jvm.ClassFile.FieldType.int)) [(0, 9, 12, 45)] 3 := ⟨gw_t4 21 rfl rfl, gw_t1 0 rfl rfl, ⟨by decide, by decide⟩, by decide, gw_t4 20 rfl rfl⟩
theorem mfw_L_grantLeave : MFW yL_grantLeave cL_grantLeave 6 ((Option.some Jvm.ClassFile.FieldType.int)) [(0, 12, 15, 23), (0, 12, 19, 13), (0, 12, 23, 15), (0, 12, 27, 35)] 5 := ⟨gw_t4 37 rfl rfl, gw_t1 0 rfl rfl, ⟨by decide, by decide⟩, by decide, gw_t4 36 rfl rfl⟩
theorem mfw_L_endLeave : MFW yL_endLeave cL_endLeave 5 ((Option.some Jvm.ClassFile.FieldType.int)) [(0, 10, 13, 23), (0, 10, 17, 45)] 4 := ⟨gw_t4 61 rfl rfl, gw_t1 0 rfl rfl, ⟨by decide, by decide⟩, by decide, gw_t4 60 rfl rfl⟩
theorem mfw_L_isOnLeave : MFW yL_isOnLeave cL_isOnLeave 5 ((Option.some Jvm.ClassFile.FieldType.int)) [(0, 17, 20, 23)] 4 := ⟨gw_t4 75 rfl rfl, gw_t1 0 rfl rfl, ⟨by decide, by decide⟩, by decide, gw_t4 74 rfl rfl⟩
theorem mfw_L_leaveSlots : MFW yL_leaveSlots cL_leaveSlots 4 ((Option.some Jvm.ClassFile.FieldType.int)) [(0, 9, 12, 23)] 3 := ⟨gw_t4 82 rfl rfl, gw_t1 0 rfl rfl, ⟨by decide, by decide⟩, by decide, gw_t4 81 rfl rfl⟩
theorem mfw_L_addRations : MFW yL_addRations cL_addRations 4 ((Option.some Jvm.ClassFile.FieldType.int)) [(0, 9, 12, 13), (0, 9, 15, 15)] 3 := ⟨gw_t4 89 rfl rfl, gw_t1 0 rfl rfl, ⟨by decide, by decide⟩, by decide, gw_t4 88 rfl rfl⟩
theorem mfw_L_passSlots : MFW yL_passSlots cL_passSlots 4 ((Option.some Jvm.ClassFile.FieldType.int)) [(0, 9, 12, 13), (0, 9, 15, 15)] 3 := ⟨gw_t4 104 rfl rfl, gw_t1 0 rfl rfl, ⟨by decide, by decide⟩, by decide, gw_t4 103 rfl rfl⟩
theorem mfw_L_refusalReason : MFW yL_refusalReason cL_refusalReason 3 ((Option.some Jvm.ClassFile.FieldType.int)) [(0, 8, 11, 45)] 2 := ⟨gw_t4 123 rfl rfl, gw_t1 0 rfl rfl, ⟨by decide, by decide⟩, by decide, gw_t4 122 rfl rfl⟩
theorem mfw_L_refusalDetail : MFW yL_refusalDetail cL_refusalDetail 3 ((Option.some Jvm.ClassFile.FieldType.int)) [(0, 8, 11, 45)] 2 := ⟨gw_t4 135 rfl rfl, gw_t1 0 rfl rfl, ⟨by decide, by decide⟩, by decide, gw_t4 134 rfl rfl⟩
theorem mfw_L_meanDuties : MFW yL_meanDuties cL_meanDuties 3 ((Option.some Jvm.ClassFile.FieldType.int)) [(0, 7, 10, 111)] 2 := ⟨gw_t4 142 rfl rfl, gw_t1 0 rfl rfl, ⟨by decide, by decide⟩, by decide, gw_t4 141 rfl rfl⟩
theorem mfw_L_coveredFraction : MFW yL_coveredFraction cL_coveredFraction 3 ((Option.some Jvm.ClassFile.FieldType.int)) [(0, 8, 11, 111)] 2 := ⟨gw_t4 166 rfl rfl, gw_t1 0 rfl rfl, ⟨by decide, by decide⟩, by decide, gw_t4 165 rfl rfl⟩
theorem mfw_L_writeSlot : MFW yL_writeSlot cL_writeSlot 4 ((Option.some Jvm.ClassFile.FieldType.int)) [(0, 9, 12, 23)] 3 := ⟨gw_t4 174 rfl rfl, gw_t1 0 rfl rfl, ⟨by decide, by decide⟩, by decide, gw_t4 173 rfl rfl⟩
theorem mfw_L_writeGuard : MFW yL_writeGuard cL_writeGuard 4 ((Option.some Jvm.ClassFile.FieldType.int)) [(0, 9, 12, 23)] 3 := ⟨gw_t4 193 rfl rfl, gw_t1 0 rfl rfl, ⟨by decide, by decide⟩, by decide, gw_t4 192 rfl rfl⟩
theorem mfw_L_outputCharacter : MFW yL_outputCharacter cL_outputCharacter 4 ((Option.some Jvm.ClassFile.FieldType.int)) [(0, 9, 12, 23)] 3 := ⟨gw_t4 200 rfl rfl, gw_t1 0 rfl rfl, ⟨by decide, by decide⟩, by decide, gw_t4 199 rfl rfl⟩
theorem mfw_L_feed : MFW yL_feed cL_feed 4 ((Option.some Jvm.ClassFile.FieldType.int)) [(0, 9, 12, 15)] 3 := ⟨gw_t4 208 rfl rfl, gw_t1 0 rfl rfl, ⟨by decide, by decide⟩, by decide, gw_t4 207 rfl rfl⟩
theorem mfw_L_execute : MFW yL_execute cL_execute 3 ((Option.some Jvm.ClassFile.FieldType.int)) [(0, 8, 11, 13), (0, 8, 14, 35)] 2 := ⟨gw_t4 224 rfl rfl, gw_t1 0 rfl rfl, ⟨by decide, by decide⟩, by decide, gw_t4 223 rfl rfl⟩
theorem mfw_L_errorPosition : MFW yL_errorPosition cL_errorPosition 3 ((Option.some Jvm.ClassFile.FieldType.int)) [(0, 8, 11, 45)] 2 := ⟨gw_t5 118 rfl rfl, gw_t1 0 rfl rfl, ⟨by decide, by decide⟩, by decide, gw_t5 117 rfl rfl⟩
theorem mfw_L_failedCommand : MFW yL_failedCommand cL_failedCommand 3 ((Option.some Jvm.ClassFile.FieldType.int)) [(0, 8, 11, 45)] 2 := ⟨gw_t5 126 rfl rfl, gw_t1 0 rfl rfl, ⟨by decide, by decide⟩, by decide, gw_t5 125 rfl rfl⟩
theorem mfw_L_undo : MFW yL_undo cL_undo 3 ((Option.some Jvm.ClassFile.FieldType.int)) [(0, 8, 11, 15)] 2 := ⟨gw_t5 134 rfl rfl, gw_t1 0 rfl rfl, ⟨by decide, by decide⟩, by decide, gw_t5 133 rfl rfl⟩
theorem mfw_L_restore : MFW yL_restore cL_restore 3 ((Option.some Jvm.ClassFile.FieldType.int)) [(0, 8, 11, 15)] 2 := ⟨gw_t5 147 rfl rfl, gw_t1 0 rfl rfl, ⟨by decide, by decide⟩, by decide, gw_t5 146 rfl rfl⟩
