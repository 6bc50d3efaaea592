

/-- what lies behind a throw -/
def XB (X : GX) (KX : String → Mem → Prop) (A : Nat → Prop) : String → State → State → Prop := vx_X (fun _ : Mem => True) (fun E u t => KX E u ∧ BW X A u t) A
/-- what holds of the classes of exceptions -/
def YF (U : State) : Prop := (∀ E ∈ exs, (Cond.castable E E).before #[] U = true) ∧ ∀ x ∈ dcls, (Cond.declares x).before #[] U = true
theorem castable_use {E F : String} {args : Array Value} {U : State} (h : (Cond.castable E F).before #[] U = true) : (Cond.castable E F).before args U = true := va_Nw.use rfl h
section V0
variable {p : Program} {l : Launch} {e : Env} {R : Room} {s : State} {m : MethodId} {args : Array Value} {below : List Frame} {meth : Method} {c : Code} {H : Heap} {locs : List Loc} {cells slots mc ms : Nat} {Q : State → Prop}
variable {cc : ByteArray} {pc : Nat} {ls : Array Slot} {rest : List Value} {A : Nat → Prop} {H0 : Heap} {X : GX} {σ : Mem} {KX : String → Mem → Prop} {Qc : Array Value → State → Outcome → State → Prop}
theorem xb_of {E : String} (hK : va_K (gD X) cls (tysW X) s) (hS : WS X A s.heap σ H locs) (h : KX E σ) (t : State) (hvm : s.vm.Alike t.vm) (hz : H.size ≤ t.heap.size) (hq : ∀ q : Nat, q < H.size → t.heap[q]? = H[q]?) : XB X KX A E s t :=
  ⟨σ, trivial, ⟨h, hS.1.kept (fun k q hk => hq _ ((hS.1 k q hk).lt)), va_K.moved hvm hK, hS.2.1⟩, ⟨Nat.le_trans hS.2.2.1 hz, fun q h1 h2 => by rw [hq q (Nat.lt_of_lt_of_le h1 hS.2.2.1)]; exact hS.2.2.2.1 q h1 h2⟩⟩
theorem k_hat {E : String} {ik ic : Nat} (hE : thrOK E ik ic) (ht : ∀ w ∈ gw, w.before args s = true) (hY : YF s) : ∀ w ∈ vx_atS "GuardRoster" ic E nms, w.before args s = true :=
  vx_hat (fun w hw => ht w (hE.2.2.2.1 w hw)) hE.2.2.2.2.1 (fun w hw => by
    rcases List.mem_cons.mp hw with rfl | hw
    · exact castable_use (hY.1 E hE.2.2.2.2.2.2)
    · obtain ⟨x, hx, rfl⟩ := List.mem_map.mp hw
      exact va_Nw.use rfl (hY.2 x hx))
theorem k_thrS {E text : String} {ik ic is : Nat} (hE : thrOK E ik ic) (i : Nat) (hi : strs[i]? = some ("GuardRoster", is, text)) (hx : p.tables.exec = Jvm.exec) (hb : c.code = cc) (hl : l.stackTraces = false) (hown : s.vm.findClass "GuardRoster" = some m.cls) (ht : ∀ w ∈ gw, w.before args s = true) (hY : YF s) (hK : va_K (gD X) cls (tysW X) s) (hZ : ZF X A s s.heap) (hS : WS X A s.heap σ H locs) (h : KX E σ) (hout : ∀ x ∈ c.exceptionTable.toList, False) (hlocks : meth.locks = false) (hsize : ls.size = c.maxLocals)
    (d0 : decode cc pc = .ok (.new ik, 3)) (d3 : decode cc (pc + 3) = .ok (.dup, 1)) (d4 : decode cc (pc + 4) = .ok (.ldc is, 2)) (d6 : decode cc (pc + 6) = .ok (.invokespecial ic, 3)) (d9 : decode cc (pc + 9) = .ok (.athrow, 1))
    (hR : 5 < R.frames ∧ (rest.map fun v => v.category).sum + 82 ≤ R.locals ∧ cells + 1 ≤ R.cells ∧ slots + 6 ≤ R.slots) (hm : cells + 1 ≤ mc ∧ slots + 6 ≤ ms) : W p l e R s m args below meth c H locs cells slots (vx_MQ below Qc (XB X KX A) args s mc ms A) (F0 m pc ls rest) :=
  vx_throwS hx hb hl hown hE.1 (by decide +kernel) (ht _ hE.2.1) (ht _ hE.2.2.1) (hZ.2.1 i _ hi) (k_hat hE ht hY) hE.2.2.2.2.2.1 hZ.2.2.2.2.1 hZ.2.2.2.2.2.1 hS.2.2 hsize d0 d3 d4 d6 d9 (fun x hx => (hout x hx).elim) hR.1 hR.2.1 hR.2.2.1 hR.2.2.2 hlocks (fun t => xb_of hK hS h t) hS.2.2.2.2 hm.1 hm.2
theorem k_thrW {E text : String} {ik ic is : Nat} (hE : thrOK E ik ic) (i : Nat) (hi : strs[i]? = some ("GuardRoster", is, text)) (hx : p.tables.exec = Jvm.exec) (hb : c.code = cc) (hl : l.stackTraces = false) (hown : s.vm.findClass "GuardRoster" = some m.cls) (ht : ∀ w ∈ gw, w.before args s = true) (hY : YF s) (hK : va_K (gD X) cls (tysW X) s) (hZ : ZF X A s s.heap) (hS : WS X A s.heap σ H locs) (h : KX E σ) (hout : ∀ x ∈ c.exceptionTable.toList, False) (hlocks : meth.locks = false) (hsize : ls.size = c.maxLocals)
    (d0 : decode cc pc = .ok (.new ik, 3)) (d3 : decode cc (pc + 3) = .ok (.dup, 1)) (d4 : decode cc (pc + 4) = .ok (.ldc_w is, 3)) (d7 : decode cc (pc + 7) = .ok (.invokespecial ic, 3)) (d10 : decode cc (pc + 10) = .ok (.athrow, 1))
    (hR : 5 < R.frames ∧ (rest.map fun v => v.category).sum + 82 ≤ R.locals ∧ cells + 1 ≤ R.cells ∧ slots + 6 ≤ R.slots) (hm : cells + 1 ≤ mc ∧ slots + 6 ≤ ms) : W p l e R s m args below meth c H locs cells slots (vx_MQ below Qc (XB X KX A) args s mc ms A) (F0 m pc ls rest) :=
  vx_throwSW hx hb hl hown hE.1 (by decide +kernel) (ht _ hE.2.1) (ht _ hE.2.2.1) (hZ.2.1 i _ hi) (k_hat hE ht hY) hE.2.2.2.2.2.1 hZ.2.2.2.2.1 hZ.2.2.2.2.2.1 hS.2.2 hsize d0 d3 d4 d7 d10 (fun x hx => (hout x hx).elim) hR.1 hR.2.1 hR.2.2.1 hR.2.2.2 hlocks (fun t => xb_of hK hS h t) hS.2.2.2.2 hm.1 hm.2
/-- a method that may throw: int, nothing, double -/
def PX (X : GX) (sz : Nat) (σ : Mem) (U : State) : Prop := PW X sz σ U ∧ YF U
def XI (l : Launch) (X : GX) (y : MethodName) (c : ByteArray) (n : Nat) (ret : Option FieldType) (rm : Room) (mc ms : Nat) (as : List Value) (σ : Mem) (K : Int32 → Mem → Prop) (KX : String → Mem → Prop) : Prop :=
  ∀ sz, vx_Met l y (wz y c n ret) rm (va_Pc as (PX X sz σ)) (va_Qi K (BW X (va_A (wW X σ) sz)) (va_A (wW X σ) sz)) (XB X KX (va_A (wW X σ) sz)) mc ms (va_A (wW X σ) sz)
def XV (l : Launch) (X : GX) (y : MethodName) (c : ByteArray) (n : Nat) (ret : Option FieldType) (rm : Room) (mc ms : Nat) (as : List Value) (σ : Mem) (K : Mem → Prop) (KX : String → Mem → Prop) : Prop :=
  ∀ sz, vx_Met l y (wz y c n ret) rm (va_Pc as (PX X sz σ)) (va_Qv K (BW X (va_A (wW X σ) sz)) (va_A (wW X σ) sz)) (XB X KX (va_A (wW X σ) sz)) mc ms (va_A (wW X σ) sz)
def XD (l : Launch) (X : GX) (y : MethodName) (c : ByteArray) (n : Nat) (ret : Option FieldType) (rm : Room) (mc ms : Nat) (as : List Value) (σ : Mem) (K : UInt64 → Mem → Prop) (KX : String → Mem → Prop) : Prop :=
  ∀ sz, vx_Met l y (wz y c n ret) rm (va_Pc as (PX X sz σ)) (va_Qd K (BW X (va_A (wW X σ) sz)) (va_A (wW X σ) sz)) (XB X KX (va_A (wW X σ) sz)) mc ms (va_A (wW X σ) sz)
def XFl (l : Launch) (X : GX) (y : MethodName) (c : ByteArray) (n : Nat) (ret : Option FieldType) (rm : Room) (mc ms : Nat) (as : List Value) (σ : Mem) (K : UInt32 → Mem → Prop) (KX : String → Mem → Prop) : Prop :=
  ∀ sz, vx_Met l y (wz y c n ret) rm (va_Pc as (PX X sz σ)) (va_Qf K (BW X (va_A (wW X σ) sz)) (va_A (wW X σ) sz)) (XB X KX (va_A (wW X σ) sz)) mc ms (va_A (wW X σ) sz)
def EntX (l : Launch) (X : GX) (y : MethodName) (cc : ByteArray) (n : Nat) (ret : Option FieldType) (rm : Room) (mc ms : Nat) (as : List Value) (σ : Mem) (QQ : (Nat → Prop) → Array Value → State → Outcome → State → Prop) (KX : String → Mem → Prop) : Prop :=
  ∀ (p : Program) (e : Env) (s : State) (m : MethodId) (args : Array Value) (below : List Frame) (meth : Method) (c : Code) (A : Nat → Prop) (ls : Array Slot), p.tables.exec = Jvm.exec → c.code = cc → meth.sig.returnType = ret → meth.locks = false → c.maxLocals = n → s.vm.findClass y.cls = some m.cls → (∀ w ∈ gw, w.before args s = true) → va_K (gD X) cls (tysW X) s → ZF X A s s.heap → (∀ q, s.heap.size ≤ q → A q) → WS X A s.heap σ s.heap [] → lv_has ls n (lv_args 0 as) → YF s → (∀ x ∈ c.exceptionTable.toList, False) →
    W p l e rm s m args below meth c s.heap [] 0 0 (vx_MQ below (QQ A) (XB X KX A) args s mc ms A) (F0 m 0 ls [])
theorem entX {y : MethodName} {n : Nat} {ret : Option FieldType} {rm : Room} {as : List Value} {QQ : (Nat → Prop) → Array Value → State → Outcome → State → Prop} (hy : plainName y.cls = true) (hlen : (lg_sl as).length ≤ n) (h : EntX l X y cc n ret rm mc ms as σ QQ KX) :
    ∀ sz, vx_Met l y (wz y cc n ret) rm (va_Pc as (PX X sz σ)) (QQ (va_A (wW X σ) sz)) (XB X KX (va_A (wW X σ) sz)) mc ms (va_A (wW X σ) sz) := by
  intro sz
  refine vx_ofW (cc := cc) (maxL := n) (ret := ret) hy rfl ?_
  intro p e s m args below meth c s₁ B hml hout hv
  obtain ⟨rfl, ⟨hsz, hP, hK, hD0, hZ⟩, hY⟩ := hv
  subst hsz
  have hD := hD0.self (sz := s.heap.size)
  have hts := atoms_spec (ws := wz y cc n ret) B.pre
  rw [lg_entry_eq]
  exact h p e s m as.toArray below meth c (va_A (wW X σ) s.heap.size) _ B.exec B.bytes B.returns B.notSynchronized hml (findClass_of_methodNamed B.named) (fun w hw => hts w (List.mem_cons_of_mem _ hw)) hK hZ (fun q h => Or.inr h) ⟨hP, hD, va_S.rf⟩ (lv_entry as hlen) hY hout
theorem kx_iret {K : Int32 → Mem → Prop} {v : Int32} (hx : p.tables.exec = Jvm.exec) (hb : c.code = cc) (hr : meth.sig.returnType = some .int) (hlocks : meth.locks = false) (hK : va_K (gD X) cls (tysW X) s) (hS : WS X A s.heap σ H locs) (h : K v σ) (hdg : decode cc pc = .ok (.ireturn, 1)) (hm : cells ≤ mc ∧ slots ≤ ms) : W p l e R s m args below meth c H locs cells slots (vx_MQ below (va_Qi K (BW X A) A) (XB X KX A) args s mc ms A) (F0 m pc ls [.int v]) :=
  vx_ret (W.widen hm.1 hm.2 (W.iret (v := v) hx hb hr (fun t ht hW => ⟨⟨v, σ, rfl, h, by rw [ht]; exact hS.1, va_K.moved hW.alike hK, hS.2.1⟩, hS.2.2.F ht⟩) hS.2.2.2.2 hdg))
theorem kx_zret {K : Int32 → Mem → Prop} {v : Int32} {ty : FieldType} (hx : p.tables.exec = Jvm.exec) (hb : c.code = cc) (hr : meth.sig.returnType = some ty) (hlocks : meth.locks = false) (hK : va_K (gD X) cls (tysW X) s) (hS : WS X A s.heap σ H locs) (hn : narrow ty (.int v) = .int v) (h : K v σ) (hdg : decode cc pc = .ok (.ireturn, 1)) (hm : cells ≤ mc ∧ slots ≤ ms) : W p l e R s m args below meth c H locs cells slots (vx_MQ below (va_Qi K (BW X A) A) (XB X KX A) args s mc ms A) (F0 m pc ls [.int v]) :=
  vx_ret (W.widen hm.1 hm.2 (W.zret (v := v) hx hb hr hn (fun t ht hW => ⟨⟨v, σ, rfl, h, by rw [ht]; exact hS.1, va_K.moved hW.alike hK, hS.2.1⟩, hS.2.2.F ht⟩) hS.2.2.2.2 hdg))
theorem kx_vret {K : Mem → Prop} (hx : p.tables.exec = Jvm.exec) (hb : c.code = cc) (hr : meth.sig.returnType = none) (hlocks : meth.locks = false) (hK : va_K (gD X) cls (tysW X) s) (hS : WS X A s.heap σ H locs) (h : K σ) (hdg : decode cc pc = .ok (.return_, 1)) (hm : cells ≤ mc ∧ slots ≤ ms) : W p l e R s m args below meth c H locs cells slots (vx_MQ below (va_Qv K (BW X A) A) (XB X KX A) args s mc ms A) (F0 m pc ls []) :=
  vx_ret (W.widen hm.1 hm.2 (W.vret hx hb hr (fun t ht hW => ⟨⟨σ, rfl, h, by rw [ht]; exact hS.1, va_K.moved hW.alike hK, hS.2.1⟩, hS.2.2.F ht⟩) hS.2.2.2.2 hdg))
theorem kx_dret {K : UInt64 → Mem → Prop} {v : UInt64} (hx : p.tables.exec = Jvm.exec) (hb : c.code = cc) (hr : meth.sig.returnType = some .double) (hlocks : meth.locks = false) (hK : va_K (gD X) cls (tysW X) s) (hS : WS X A s.heap σ H locs) (h : K v σ) (hdg : decode cc pc = .ok (.dreturn, 1)) (hm : cells ≤ mc ∧ slots ≤ ms) : W p l e R s m args below meth c H locs cells slots (vx_MQ below (va_Qd K (BW X A) A) (XB X KX A) args s mc ms A) (F0 m pc ls [.double v]) :=
  vx_ret (W.widen hm.1 hm.2 (W.dret (v := v) hx hb hr (fun t ht hW => ⟨⟨v, σ, rfl, h, by rw [ht]; exact hS.1, va_K.moved hW.alike hK, hS.2.1⟩, hS.2.2.F ht⟩) hS.2.2.2.2 hdg))
theorem kx_fret {K : UInt32 → Mem → Prop} {v : UInt32} (hx : p.tables.exec = Jvm.exec) (hb : c.code = cc) (hr : meth.sig.returnType = some .float) (hlocks : meth.locks = false) (hK : va_K (gD X) cls (tysW X) s) (hS : WS X A s.heap σ H locs) (h : K v σ) (hdg : decode cc pc = .ok (.freturn, 1)) (hm : cells ≤ mc ∧ slots ≤ ms) : W p l e R s m args below meth c H locs cells slots (vx_MQ below (va_Qf K (BW X A) A) (XB X KX A) args s mc ms A) (F0 m pc ls [.float v]) :=
  vx_ret (W.widen hm.1 hm.2 (W.fret (v := v) hx hb hr (fun t ht hW => ⟨⟨v, σ, rfl, h, by rw [ht]; exact hS.1, va_K.moved hW.alike hK, hS.2.1⟩, hS.2.2.F ht⟩) hS.2.2.2.2 hdg))
def MD (l : Launch) (X : GX) (y : MethodName) (c : ByteArray) (n : Nat) (ret : Option FieldType) (rm : Room) (as : List Value) (σ : Mem) (K : UInt64 → Mem → Prop) : Prop :=
  ∀ sz, Met l y (wz y c n ret) rm (va_Pc as (PW X sz σ)) (va_Qd K (BW X (va_A (wW X σ) sz)) (va_A (wW X σ) sz)) 0 0 (va_A (wW X σ) sz)
def MFl (l : Launch) (X : GX) (y : MethodName) (c : ByteArray) (n : Nat) (ret : Option FieldType) (rm : Room) (as : List Value) (σ : Mem) (K : UInt32 → Mem → Prop) : Prop :=
  ∀ sz, Met l y (wz y c n ret) rm (va_Pc as (PW X sz σ)) (va_Qf K (BW X (va_A (wW X σ) sz)) (va_A (wW X σ) sz)) 0 0 (va_A (wW X σ) sz)
theorem k_dret {K : UInt64 → Mem → Prop} {v : UInt64} (hx : p.tables.exec = Jvm.exec) (hb : c.code = cc) (hr : meth.sig.returnType = some .double) (hlocks : meth.locks = false) (hK : va_K (gD X) cls (tysW X) s) (hS : WS X A s.heap σ H locs) (h : K v σ) (hdg : decode cc pc = .ok (.dreturn, 1)) : W p l e R s m args below meth c H locs 0 0 (MQ below (va_Qd K (BW X A) A) args s 0 0 A) (F0 m pc ls [.double v]) :=
  W.dret (v := v) hx hb hr (fun t ht hW => ⟨⟨v, σ, rfl, h, by rw [ht]; exact hS.1, va_K.moved hW.alike hK, hS.2.1⟩, hS.2.2.F ht⟩) hS.2.2.2.2 hdg
theorem k_fret {K : UInt32 → Mem → Prop} {v : UInt32} (hx : p.tables.exec = Jvm.exec) (hb : c.code = cc) (hr : meth.sig.returnType = some .float) (hlocks : meth.locks = false) (hK : va_K (gD X) cls (tysW X) s) (hS : WS X A s.heap σ H locs) (h : K v σ) (hdg : decode cc pc = .ok (.freturn, 1)) : W p l e R s m args below meth c H locs 0 0 (MQ below (va_Qf K (BW X A) A) args s 0 0 A) (F0 m pc ls [.float v]) :=
  W.fret (v := v) hx hb hr (fun t ht hW => ⟨⟨v, σ, rfl, h, by rw [ht]; exact hS.1, va_K.moved hW.alike hK, hS.2.1⟩, hS.2.2.F ht⟩) hS.2.2.2.2 hdg
theorem ws_blindX (sz : Nat) (as : List Value) : FrameBlind (va_Pc as (PX X sz σ)) := fun a U g mk q => by
  obtain ⟨q0, q1, q2⟩ := q
  obtain ⟨r0, r1⟩ := ws_blind sz as a U g mk ⟨q0, q1⟩
  exact ⟨r0, r1, fun E hE => va_Nw.same (w := .castable E E) rfl rfl (q2.1 E hE), fun x hx => va_Nw.same (w := .declares x) rfl rfl (q2.2 x hx)⟩
theorem YF.warm {U : State} (h : YF s) (hW : s.WarmedH U.vm) : YF U := by
  refine ⟨fun E hE => ?_, fun x hx => va_Nw.warmD hW (h.2 x hx)⟩
  obtain ⟨c3, c4, h3, h4, h5⟩ := Cond.castable_spec (h.1 E hE)
  have e3 : U.vm.findClass E = some c3 := by rw [hW.alike.findClass]; exact h3
  have e4 : U.vm.findClass E = some c4 := by rw [hW.alike.findClass]; exact h4
  have e5 : U.vm.assignable c3 c4 = true := by rw [hW.alike.assignable]; exact h5
  cases Option.some.inj (e3.symm.trans e4)
  show (Cond.castable E E).holds #[] U none U [] = true
  simp [Cond.holds, Cond.value, e3, e5]
theorem k_hatN (ht : ∀ w ∈ gw, w.before args s = true) (hY : YF s) : ∀ w ∈ (vy_atoms "GuardRoster" 151 eN 13 rxN nms).filter vx_no, w.before args s = true :=
  vx_hat (fun w hw => ht w (t_NSEE_1 w hw)) t_NSEE_2 (fun w hw => by
    rcases List.mem_cons.mp hw with rfl | hw
    · exact castable_use (hY.1 eN (by decide +kernel))
    · obtain ⟨x, hx, rfl⟩ := List.mem_map.mp hw
      exact va_Nw.use rfl (hY.2 x hx))
theorem k_thrSN {text : String} {is : Nat} (i : Nat) (hi : strs[i]? = some ("GuardRoster", is, text)) (hx : p.tables.exec = Jvm.exec) (hb : c.code = cc) (hl : l.stackTraces = false) (hown : s.vm.findClass "GuardRoster" = some m.cls) (ht : ∀ w ∈ gw, w.before args s = true) (hY : YF s) (hK : va_K (gD X) cls (tysW X) s) (hZ : ZF X A s s.heap) (hS : WS X A s.heap σ H locs) (h : KX eN σ) (hout : ∀ x ∈ c.exceptionTable.toList, False) (hlocks : meth.locks = false) (hsize : ls.size = c.maxLocals)
    (d0 : decode cc pc = .ok (.new 147, 3)) (d3 : decode cc (pc + 3) = .ok (.dup, 1)) (d4 : decode cc (pc + 4) = .ok (.ldc is, 2)) (d6 : decode cc (pc + 6) = .ok (.invokespecial 151, 3)) (d9 : decode cc (pc + 9) = .ok (.athrow, 1))
    (hR : 5 < R.frames ∧ (rest.map fun v => v.category).sum + 82 ≤ R.locals ∧ cells + 1 ≤ R.cells ∧ slots + 6 ≤ R.slots) (hm : cells + 1 ≤ mc ∧ slots + 6 ≤ ms) : W p l e R s m args below meth c H locs cells slots (vx_MQ below Qc (XB X KX A) args s mc ms A) (F0 m pc ls rest) := by
  refine vy_makeS (names := nms) (cls := eN) hx hb hl (x0 := by decide +kernel) (x1 := by decide +kernel) (x2 := by decide +kernel) (x5 := by decide +kernel) hown (by decide +kernel) (by decide +kernel) (ht _ (gw_t2 207 rfl rfl)) (ht _ (gw_t1 13 rfl rfl)) (hZ.2.1 i _ hi) (k_hatN ht hY) t_NSEE_3 hZ.2.2.2.2.1 hZ.2.2.2.2.2.1 hS.2.2 hsize d0 d3 d4 d6 hS.1 hR.1 hR.2.1 hR.2.2.1 hR.2.2.2 (fun q H1 ce hce hcv hcl hP1 hS1 => ?_)
  refine vx_athrow hx hb d9 ?_
  exact vx_out (fun x hx => (hout x hx).elim) hlocks hce hcv hcl (fun t ht hvm => ⟨σ, trivial, ⟨h, by rw [ht]; exact hP1, va_K.moved hvm hK, hS.2.1⟩, hS1.F ht⟩) hS1.2.2 hm.1 hm.2
theorem k_thrWN {text : String} {is : Nat} (i : Nat) (hi : strs[i]? = some ("GuardRoster", is, text)) (hx : p.tables.exec = Jvm.exec) (hb : c.code = cc) (hl : l.stackTraces = false) (hown : s.vm.findClass "GuardRoster" = some m.cls) (ht : ∀ w ∈ gw, w.before args s = true) (hY : YF s) (hK : va_K (gD X) cls (tysW X) s) (hZ : ZF X A s s.heap) (hS : WS X A s.heap σ H locs) (h : KX eN σ) (hout : ∀ x ∈ c.exceptionTable.toList, False) (hlocks : meth.locks = false) (hsize : ls.size = c.maxLocals)
    (d0 : decode cc pc = .ok (.new 147, 3)) (d3 : decode cc (pc + 3) = .ok (.dup, 1)) (d4 : decode cc (pc + 4) = .ok (.ldc_w is, 3)) (d6 : decode cc (pc + 7) = .ok (.invokespecial 151, 3)) (d9 : decode cc (pc + 10) = .ok (.athrow, 1))
    (hR : 5 < R.frames ∧ (rest.map fun v => v.category).sum + 82 ≤ R.locals ∧ cells + 1 ≤ R.cells ∧ slots + 6 ≤ R.slots) (hm : cells + 1 ≤ mc ∧ slots + 6 ≤ ms) : W p l e R s m args below meth c H locs cells slots (vx_MQ below Qc (XB X KX A) args s mc ms A) (F0 m pc ls rest) := by
  refine vy_makeW (names := nms) (cls := eN) hx hb hl (x0 := by decide +kernel) (x1 := by decide +kernel) (x2 := by decide +kernel) (x5 := by decide +kernel) hown (by decide +kernel) (by decide +kernel) (ht _ (gw_t2 207 rfl rfl)) (ht _ (gw_t1 13 rfl rfl)) (hZ.2.1 i _ hi) (k_hatN ht hY) t_NSEE_3 hZ.2.2.2.2.1 hZ.2.2.2.2.2.1 hS.2.2 hsize d0 d3 d4 d6 hS.1 hR.1 hR.2.1 hR.2.2.1 hR.2.2.2 (fun q H1 ce hce hcv hcl hP1 hS1 => ?_)
  refine vx_athrow hx hb d9 ?_
  exact vx_out (fun x hx => (hout x hx).elim) hlocks hce hcv hcl (fun t ht hvm => ⟨σ, trivial, ⟨h, by rw [ht]; exact hP1, va_K.moved hvm hK, hS.2.1⟩, hS1.F ht⟩) hS1.2.2 hm.1 hm.2
end V0

section V1
variable {p : Program} {l : Launch} {e : Env} {R : Room} {s : State} {m : MethodId} {args : Array Value} {below : List Frame} {meth : Method} {c : Code} {H : Heap} {locs : List Loc} {cells slots mc ms : Nat} {Q : State → Prop}
variable {cc : ByteArray} {pc : Nat} {ls : Array Slot} {A : Nat → Prop} {X : GX} {σ : Mem} {Qc : Array Value → State → Outcome → State → Prop}
theorem kx_callB {y : MethodName} {c' : ByteArray} {n' np idx mc' ms' : Nat} {ret' : Option FieldType} {rm : Room} {own : String} (hF : MF y c' n' ret' np) (ht : ∀ w ∈ gw, w.before args s = true) (hlink : Cond.methodLink own idx y ∈ gw) (hrc : rm.cells = mc' ∧ rm.slots = ms') (hR : rm.frames + 1 ≤ R.frames ∧ 8 + (n' + 11) + rm.locals ≤ R.locals) :
    CallB R s args own idx y c' n' ret' (wz y c' n' ret') rm mc' ms' np :=
  ⟨hrc.1, hrc.2, hR.1, hR.2, pay_in ht (gz hF.1), List.mem_cons_self, ht _ hF.1, ht _ hF.2.1, hF.2.2.1, fun sig h => by
    have h2 := hF.2.2.2
    rw [h] at h2
    exact (Option.some.inj h2).symm, ht _ hlink⟩
theorem last_34 (hx : p.tables.exec = Jvm.exec) (hb : c.code = cc) (hK : va_K (gD X) cls (tysW X) s) (hS : WS X A s.heap σ H locs) {x : Int32} {rest : List Value} (hdg : decode cc pc = .ok (.lastore, 1)) (kk : ∀ (H : Heap) (locs : List Loc), WS X A s.heap (st σ 34 0 x) H locs → W p l e R s m args below meth c H locs cells slots Q (F0 m (pc + 1) ls rest)) : W p l e R s m args below meth c H locs cells slots Q (F0 m pc ls (.long x.toInt64 :: .int 0 :: .ref (ga X 34) :: rest)) := by
  refine va_last hx hb hK hS.1 hS.2.1 hS.2.2 34 3 rfl rfl (by unfold vp_in; decide) hdg (fun H locs hP hD hS => ?_)
  have e : vp_updL (fun j => (σ 34 j).toInt64) (0 : Int32).toNatClampNeg x.toInt64 = fun j => (st σ 34 0 x 34 j).toInt64 := by
    funext j
    show (if j = 0 then x.toInt64 else (σ 34 j).toInt64) = (upd (σ 34) 0 x j).toInt64
    unfold upd
    split <;> rfl
  rw [e] at hP hD
  exact kk H locs ⟨hP, hD, hS⟩
theorem dast_35 (hx : p.tables.exec = Jvm.exec) (hb : c.code = cc) (hK : va_K (gD X) cls (tysW X) s) (hS : WS X A s.heap σ H locs) {x : UInt64} {k a b : Int32} {rest : List Value} (hv : x = dval k a b) (hdg : decode cc pc = .ok (.dastore, 1)) (kk : ∀ (H : Heap) (locs : List Loc), WS X A s.heap (st (st (st σ 35 0 k) 35 1 a) 35 2 b) H locs → W p l e R s m args below meth c H locs cells slots Q (F0 m (pc + 1) ls rest)) : W p l e R s m args below meth c H locs cells slots Q (F0 m pc ls (.double x :: .int 0 :: .ref (ga X 35) :: rest)) := by
  refine va_dast hx hb hK hS.1 hS.2.1 hS.2.2 35 4 rfl rfl (by unfold vp_in; decide) hdg (fun H locs hP hD hS => ?_)
  have e : vf_upd (fun j => dval (σ 35 (3 * j)) (σ 35 (3 * j + 1)) (σ 35 (3 * j + 2))) (0 : Int32).toNatClampNeg x = fun j => dval (st (st (st σ 35 0 k) 35 1 a) 35 2 b 35 (3 * j)) (st (st (st σ 35 0 k) 35 1 a) 35 2 b 35 (3 * j + 1)) (st (st (st σ 35 0 k) 35 1 a) 35 2 b 35 (3 * j + 2)) := by
    funext j
    by_cases hj : j = 0
    · subst hj
      exact hv
    · have h0 : ∀ i, 3 ≤ i → st (st (st σ 35 0 k) 35 1 a) 35 2 b 35 i = σ 35 i := fun i hi => by
        show upd (upd (upd (σ 35) 0 k) 1 a) 2 b i = σ 35 i
        unfold upd
        rw [if_neg (by omega), if_neg (by omega), if_neg (by omega)]
      rw [h0 _ (by omega), h0 _ (by omega), h0 _ (by omega)]
      exact if_neg hj
  rw [e] at hP hD
  exact kk H locs ⟨hP, hD, hS⟩
abbrev wzW (y : MethodName) (c : ByteArray) (n : Nat) (ret : Option FieldType) (hh : List (Nat × Nat × Nat × Nat)) : List Cond := Cond.codeWith y c n ret hh :: gw
def MH (l : Launch) (X : GX) (y : MethodName) (c : ByteArray) (n : Nat) (ret : Option FieldType) (hh : List (Nat × Nat × Nat × Nat)) (rm : Room) (mc ms : Nat) (as : List Value) (σ : Mem) (K : Int32 → Mem → Prop) : Prop :=
  ∀ sz, Met l y (wzW y c n ret hh) rm (va_Pc as (PX X sz σ)) (va_Qi K (BW X (va_A (wW X σ) sz)) (va_A (wW X σ) sz)) mc ms (va_A (wW X σ) sz)
def EntH (l : Launch) (X : GX) (y : MethodName) (cc : ByteArray) (n : Nat) (ret : Option FieldType) (hh : List (Nat × Nat × Nat × Nat)) (rm : Room) (mc ms : Nat) (as : List Value) (σ : Mem) (K : Int32 → Mem → Prop) : Prop :=
  ∀ (p : Program) (e : Env) (s : State) (m : MethodId) (args : Array Value) (below : List Frame) (meth : Method) (c : Code) (A : Nat → Prop) (ls : Array Slot), p.tables.exec = Jvm.exec → c.code = cc → meth.sig.returnType = ret → meth.locks = false → c.maxLocals = n → s.vm.findClass y.cls = some m.cls → (∀ w ∈ gw, w.before args s = true) → va_K (gD X) cls (tysW X) s → ZF X A s s.heap → (∀ q, s.heap.size ≤ q → A q) → WS X A s.heap σ s.heap [] → lv_has ls n (lv_args 0 as) → YF s → c.exceptionTable.toList = tableOf hh →
    W p l e rm s m args below meth c s.heap [] 0 0 (MQ below (va_Qi K (BW X A) A) args s mc ms A) (F0 m 0 ls [])
theorem entH {y : MethodName} {n : Nat} {ret : Option FieldType} {hh : List (Nat × Nat × Nat × Nat)} {rm : Room} {as : List Value} {K : Int32 → Mem → Prop} (hy : plainName y.cls = true) (hlen : (lg_sl as).length ≤ n) (h : EntH l X y cc n ret hh rm mc ms as σ K) : MH l X y cc n ret hh rm mc ms as σ K := by
  intro sz
  refine va_MetW (cc := cc) (maxL := n) (ret := ret) (hh := hh) hy rfl ?_
  intro p e s m args below meth c s₁ B hml hv
  obtain ⟨rfl, ⟨hsz, hP, hK, hD0, hZ⟩, hY⟩ := hv
  subst hsz
  have hD := hD0.self (sz := s.heap.size)
  have hts := atoms_spec (ws := wzW y cc n ret hh) B.pre
  have htab := vx_table (x := y) B (hts _ List.mem_cons_self)
  rw [lg_entry_eq]
  exact h p e s m as.toArray below meth c (va_A (wW X σ) s.heap.size) _ B.exec B.bytes B.returns B.notSynchronized hml (findClass_of_methodNamed B.named) (fun w hw => hts w (List.mem_cons_of_mem _ hw)) hK hZ (fun q h => Or.inr h) ⟨hP, hD, va_S.rf⟩ (lv_entry as hlen) hY htab
theorem kw_iret {K : Int32 → Mem → Prop} {v : Int32} (hx : p.tables.exec = Jvm.exec) (hb : c.code = cc) (hr : meth.sig.returnType = some .int) (hlocks : meth.locks = false) (hK : va_K (gD X) cls (tysW X) s) (hS : WS X A s.heap σ H locs) (h : K v σ) (hdg : decode cc pc = .ok (.ireturn, 1)) (hm : cells ≤ mc ∧ slots ≤ ms) : W p l e R s m args below meth c H locs cells slots (MQ below (va_Qi K (BW X A) A) args s mc ms A) (F0 m pc ls [.int v]) :=
  W.widen hm.1 hm.2 (W.iret (v := v) hx hb hr (fun t ht hW => ⟨⟨v, σ, rfl, h, by rw [ht]; exact hS.1, va_K.moved hW.alike hK, hS.2.1⟩, hS.2.2.F ht⟩) hS.2.2.2.2 hdg)
theorem kh_VI {y : MethodName} {c' : ByteArray} {n' np idx nL mc' ms' : Nat} {ret' : Option FieldType} {rm : Room} {own : String} {b : Addr} {As rest st0 : List Value} {K : Int32 → Mem → Prop} {KX : String → Mem → Prop} (hM : XI l X y c' n' ret' rm mc' ms' (.ref b :: As) σ K KX) (hF : MFV y c' n' ret' np) (hlink : Cond.methodLink own idx y ∈ gw)
    (hx : p.tables.exec = Jvm.exec) (hb : c.code = cc) (hml : c.maxLocals = nL) (hown : s.vm.findClass own = some m.cls) (ht : ∀ w ∈ gw, w.before args s = true) (hK : va_K (gD X) cls (tysW X) s) (hZ : ZF X A s s.heap) (hS : WS X A s.heap σ H locs) (hA : ∀ q, s.heap.size ≤ q → A q) (hY : YF s) (q0 ci : Nat) {C : vw_C} {fs : List Value} (hci : cls[ci]? = some C) (hC : C.1 = y.cls) (he : (wW X σ)[q0]? = some (b, .inr (ci, fs)))
    (hrc : rm.cells = mc' ∧ rm.slots = ms') (hR : rm.frames + 1 ≤ R.frames ∧ 8 + (n' + 11) + rm.locals ≤ R.locals) (hn : As.length = np) (hls : ls.size = nL) (hst : st0 = As.reverse ++ .ref b :: rest) (hcat : (rest.map fun v => v.category).sum ≤ 8) (hz : cells + mc' ≤ R.cells ∧ slots + ms' ≤ R.slots) (hdg : decode cc pc = .ok (.invokevirtual idx, 3))
    (kx : ∀ (E : String) (σ : Mem) (H : Heap) (locs : List Loc) (ce : Cell) (q9 : Addr), WS X A s.heap σ H locs → KX E σ → H[q9]? = some ce → ce.vm = .none → s.vm.findClass E = some ce.cls → vx_W p l e R s m args below meth c H locs (cells + mc') (slots + ms') Q (F0 m pc ls rest) q9)
    (kk : ∀ (r : Int32) (σ : Mem) (H : Heap) (locs : List Loc), WS X A s.heap σ H locs → K r σ → W p l e R s m args below meth c H locs (cells + mc') (slots + ms') Q (F0 m (pc + 3) ls (.int r :: rest))) : W p l e R s m args below meth c H locs cells slots Q (F0 m pc ls st0) := by
  have hF9 := ws_free hS hA
  refine vx_calli (vx_runV (cc := cc) (nL := nL) (Ts := gw) (own := own) (C := C.1) (rest := rest) ⟨hx, hb, hml, hown, ht⟩ (hM H.size) ⟨kx_callB hF.1 ht hlink hrc hR, ht _ hF.2.1, by rw [hC]; exact ht _ hF.2.2⟩ ⟨ws_blindX _ _, va_recv hK hS.1 hci he, fun U hU hW => ⟨rfl, ⟨by rw [hU], by rw [hU]; exact hS.1, va_K.moved hW.alike hK, hS.2.1.weaken (fun _ _ _ _ => trivial), hZ.call hS.2.2 (ws_free hS hA) hU hW⟩, hY.warm hW⟩⟩ rfl hn hls hst (lv_room hcat) hdg hz) hS.2.2 (fun q _ h => hF9 q h) hF9 (fun q _ h => hF9 q h) (fun E ce q9 u t H1 locs1 ht hvm hp hB hz1 hk1 hS1 hce hcv hcl => ?_) (fun r u t H1 locs1 ht hvm hw hB hz1 hk1 hS1 => ?_)
  · obtain ⟨hKX, hP1, hK1, hD1⟩ := hB
    rw [ht] at hP1
    exact kx E u H1 locs1 ce q9 ⟨hP1, hD1.weaken (fun k q _ h => hF9 q.1 h), hS1⟩ hKX hce hcv hcl
  · obtain ⟨hP1, hK1, hD1⟩ := hB
    rw [ht] at hP1
    exact kk r u H1 locs1 ⟨hP1, hD1.weaken (fun k q _ h => hF9 q.1 h), hS1⟩ hw
theorem kx_VI {y : MethodName} {c' : ByteArray} {n' np idx nL mc' ms' : Nat} {ret' : Option FieldType} {rm : Room} {own : String} {b : Addr} {As rest st0 : List Value} {K : Int32 → Mem → Prop} {KX : String → Mem → Prop} (hM : XI l X y c' n' ret' rm mc' ms' (.ref b :: As) σ K KX) (hF : MFV y c' n' ret' np) (hlink : Cond.methodLink own idx y ∈ gw)
    (hx : p.tables.exec = Jvm.exec) (hb : c.code = cc) (hml : c.maxLocals = nL) (hown : s.vm.findClass own = some m.cls) (ht : ∀ w ∈ gw, w.before args s = true) (hK : va_K (gD X) cls (tysW X) s) (hZ : ZF X A s s.heap) (hS : WS X A s.heap σ H locs) (hA : ∀ q, s.heap.size ≤ q → A q) (hY : YF s) (q0 ci : Nat) {C : vw_C} {fs : List Value} (hci : cls[ci]? = some C) (hC : C.1 = y.cls) (he : (wW X σ)[q0]? = some (b, .inr (ci, fs)))
    (hrc : rm.cells = mc' ∧ rm.slots = ms') (hR : rm.frames + 1 ≤ R.frames ∧ 8 + (n' + 11) + rm.locals ≤ R.locals) (hn : As.length = np) (hls : ls.size = nL) (hst : st0 = As.reverse ++ .ref b :: rest) (hcat : (rest.map fun v => v.category).sum ≤ 8) (hz : cells + mc' ≤ R.cells ∧ slots + ms' ≤ R.slots) (hdg : decode cc pc = .ok (.invokevirtual idx, 3)) (hout : ∀ x ∈ c.exceptionTable.toList, False) (hlocks : meth.locks = false) (hm : cells + mc' ≤ mc ∧ slots + ms' ≤ ms)
    (kk : ∀ (r : Int32) (σ : Mem) (H : Heap) (locs : List Loc), WS X A s.heap σ H locs → K r σ → W p l e R s m args below meth c H locs (cells + mc') (slots + ms') (vx_MQ below Qc (XB X KX A) args s mc ms A) (F0 m (pc + 3) ls (.int r :: rest))) : W p l e R s m args below meth c H locs cells slots (vx_MQ below Qc (XB X KX A) args s mc ms A) (F0 m pc ls st0) :=
  kh_VI hM hF hlink hx hb hml hown ht hK hZ hS hA hY q0 ci hci hC he hrc hR hn hls hst hcat hz hdg (fun E σ H locs ce q9 hS h hce hcv hcl => vx_out (fun x hx => (hout x hx).elim) hlocks hce hcv hcl (fun t ht hvm => ⟨σ, trivial, ⟨h, by rw [ht]; exact hS.1, va_K.moved hvm hK, hS.2.1⟩, hS.2.2.F ht⟩) hS.2.2.2.2 hm.1 hm.2) kk
theorem kh_VV {y : MethodName} {c' : ByteArray} {n' np idx nL mc' ms' : Nat} {ret' : Option FieldType} {rm : Room} {own : String} {b : Addr} {As rest st0 : List Value} {K : Mem → Prop} {KX : String → Mem → Prop} (hM : XV l X y c' n' ret' rm mc' ms' (.ref b :: As) σ K KX) (hF : MFV y c' n' ret' np) (hlink : Cond.methodLink own idx y ∈ gw)
    (hx : p.tables.exec = Jvm.exec) (hb : c.code = cc) (hml : c.maxLocals = nL) (hown : s.vm.findClass own = some m.cls) (ht : ∀ w ∈ gw, w.before args s = true) (hK : va_K (gD X) cls (tysW X) s) (hZ : ZF X A s s.heap) (hS : WS X A s.heap σ H locs) (hA : ∀ q, s.heap.size ≤ q → A q) (hY : YF s) (q0 ci : Nat) {C : vw_C} {fs : List Value} (hci : cls[ci]? = some C) (hC : C.1 = y.cls) (he : (wW X σ)[q0]? = some (b, .inr (ci, fs)))
    (hrc : rm.cells = mc' ∧ rm.slots = ms') (hR : rm.frames + 1 ≤ R.frames ∧ 8 + (n' + 11) + rm.locals ≤ R.locals) (hn : As.length = np) (hls : ls.size = nL) (hst : st0 = As.reverse ++ .ref b :: rest) (hcat : (rest.map fun v => v.category).sum ≤ 8) (hz : cells + mc' ≤ R.cells ∧ slots + ms' ≤ R.slots) (hdg : decode cc pc = .ok (.invokevirtual idx, 3))
    (kx : ∀ (E : String) (σ : Mem) (H : Heap) (locs : List Loc) (ce : Cell) (q9 : Addr), WS X A s.heap σ H locs → KX E σ → H[q9]? = some ce → ce.vm = .none → s.vm.findClass E = some ce.cls → vx_W p l e R s m args below meth c H locs (cells + mc') (slots + ms') Q (F0 m pc ls rest) q9)
    (kk : ∀ (σ : Mem) (H : Heap) (locs : List Loc), WS X A s.heap σ H locs → K σ → W p l e R s m args below meth c H locs (cells + mc') (slots + ms') Q (F0 m (pc + 3) ls (rest))) : W p l e R s m args below meth c H locs cells slots Q (F0 m pc ls st0) := by
  have hF9 := ws_free hS hA
  refine vx_callv (vx_runV (cc := cc) (nL := nL) (Ts := gw) (own := own) (C := C.1) (rest := rest) ⟨hx, hb, hml, hown, ht⟩ (hM H.size) ⟨kx_callB hF.1 ht hlink hrc hR, ht _ hF.2.1, by rw [hC]; exact ht _ hF.2.2⟩ ⟨ws_blindX _ _, va_recv hK hS.1 hci he, fun U hU hW => ⟨rfl, ⟨by rw [hU], by rw [hU]; exact hS.1, va_K.moved hW.alike hK, hS.2.1.weaken (fun _ _ _ _ => trivial), hZ.call hS.2.2 (ws_free hS hA) hU hW⟩, hY.warm hW⟩⟩ rfl hn hls hst (lv_room hcat) hdg hz) hS.2.2 (fun q _ h => hF9 q h) hF9 (fun q _ h => hF9 q h) (fun E ce q9 u t H1 locs1 ht hvm hp hB hz1 hk1 hS1 hce hcv hcl => ?_) (fun u t H1 locs1 ht hvm hw hB hz1 hk1 hS1 => ?_)
  · obtain ⟨hKX, hP1, hK1, hD1⟩ := hB
    rw [ht] at hP1
    exact kx E u H1 locs1 ce q9 ⟨hP1, hD1.weaken (fun k q _ h => hF9 q.1 h), hS1⟩ hKX hce hcv hcl
  · obtain ⟨hP1, hK1, hD1⟩ := hB
    rw [ht] at hP1
    exact kk u H1 locs1 ⟨hP1, hD1.weaken (fun k q _ h => hF9 q.1 h), hS1⟩ hw
theorem kx_VV {y : MethodName} {c' : ByteArray} {n' np idx nL mc' ms' : Nat} {ret' : Option FieldType} {rm : Room} {own : String} {b : Addr} {As rest st0 : List Value} {K : Mem → Prop} {KX : String → Mem → Prop} (hM : XV l X y c' n' ret' rm mc' ms' (.ref b :: As) σ K KX) (hF : MFV y c' n' ret' np) (hlink : Cond.methodLink own idx y ∈ gw)
    (hx : p.tables.exec = Jvm.exec) (hb : c.code = cc) (hml : c.maxLocals = nL) (hown : s.vm.findClass own = some m.cls) (ht : ∀ w ∈ gw, w.before args s = true) (hK : va_K (gD X) cls (tysW X) s) (hZ : ZF X A s s.heap) (hS : WS X A s.heap σ H locs) (hA : ∀ q, s.heap.size ≤ q → A q) (hY : YF s) (q0 ci : Nat) {C : vw_C} {fs : List Value} (hci : cls[ci]? = some C) (hC : C.1 = y.cls) (he : (wW X σ)[q0]? = some (b, .inr (ci, fs)))
    (hrc : rm.cells = mc' ∧ rm.slots = ms') (hR : rm.frames + 1 ≤ R.frames ∧ 8 + (n' + 11) + rm.locals ≤ R.locals) (hn : As.length = np) (hls : ls.size = nL) (hst : st0 = As.reverse ++ .ref b :: rest) (hcat : (rest.map fun v => v.category).sum ≤ 8) (hz : cells + mc' ≤ R.cells ∧ slots + ms' ≤ R.slots) (hdg : decode cc pc = .ok (.invokevirtual idx, 3)) (hout : ∀ x ∈ c.exceptionTable.toList, False) (hlocks : meth.locks = false) (hm : cells + mc' ≤ mc ∧ slots + ms' ≤ ms)
    (kk : ∀ (σ : Mem) (H : Heap) (locs : List Loc), WS X A s.heap σ H locs → K σ → W p l e R s m args below meth c H locs (cells + mc') (slots + ms') (vx_MQ below Qc (XB X KX A) args s mc ms A) (F0 m (pc + 3) ls (rest))) : W p l e R s m args below meth c H locs cells slots (vx_MQ below Qc (XB X KX A) args s mc ms A) (F0 m pc ls st0) :=
  kh_VV hM hF hlink hx hb hml hown ht hK hZ hS hA hY q0 ci hci hC he hrc hR hn hls hst hcat hz hdg (fun E σ H locs ce q9 hS h hce hcv hcl => vx_out (fun x hx => (hout x hx).elim) hlocks hce hcv hcl (fun t ht hvm => ⟨σ, trivial, ⟨h, by rw [ht]; exact hS.1, va_K.moved hvm hK, hS.2.1⟩, hS.2.2.F ht⟩) hS.2.2.2.2 hm.1 hm.2) kk
theorem kh_VD {y : MethodName} {c' : ByteArray} {n' np idx nL mc' ms' : Nat} {ret' : Option FieldType} {rm : Room} {own : String} {b : Addr} {As rest st0 : List Value} {K : UInt64 → Mem → Prop} {KX : String → Mem → Prop} (hM : XD l X y c' n' ret' rm mc' ms' (.ref b :: As) σ K KX) (hF : MFV y c' n' ret' np) (hlink : Cond.methodLink own idx y ∈ gw)
    (hx : p.tables.exec = Jvm.exec) (hb : c.code = cc) (hml : c.maxLocals = nL) (hown : s.vm.findClass own = some m.cls) (ht : ∀ w ∈ gw, w.before args s = true) (hK : va_K (gD X) cls (tysW X) s) (hZ : ZF X A s s.heap) (hS : WS X A s.heap σ H locs) (hA : ∀ q, s.heap.size ≤ q → A q) (hY : YF s) (q0 ci : Nat) {C : vw_C} {fs : List Value} (hci : cls[ci]? = some C) (hC : C.1 = y.cls) (he : (wW X σ)[q0]? = some (b, .inr (ci, fs)))
    (hrc : rm.cells = mc' ∧ rm.slots = ms') (hR : rm.frames + 1 ≤ R.frames ∧ 8 + (n' + 11) + rm.locals ≤ R.locals) (hn : As.length = np) (hls : ls.size = nL) (hst : st0 = As.reverse ++ .ref b :: rest) (hcat : (rest.map fun v => v.category).sum ≤ 8) (hz : cells + mc' ≤ R.cells ∧ slots + ms' ≤ R.slots) (hdg : decode cc pc = .ok (.invokevirtual idx, 3))
    (kx : ∀ (E : String) (σ : Mem) (H : Heap) (locs : List Loc) (ce : Cell) (q9 : Addr), WS X A s.heap σ H locs → KX E σ → H[q9]? = some ce → ce.vm = .none → s.vm.findClass E = some ce.cls → vx_W p l e R s m args below meth c H locs (cells + mc') (slots + ms') Q (F0 m pc ls rest) q9)
    (kk : ∀ (r : UInt64) (σ : Mem) (H : Heap) (locs : List Loc), WS X A s.heap σ H locs → K r σ → W p l e R s m args below meth c H locs (cells + mc') (slots + ms') Q (F0 m (pc + 3) ls (.double r :: rest))) : W p l e R s m args below meth c H locs cells slots Q (F0 m pc ls st0) := by
  have hF9 := ws_free hS hA
  refine vx_calld (vx_runV (cc := cc) (nL := nL) (Ts := gw) (own := own) (C := C.1) (rest := rest) ⟨hx, hb, hml, hown, ht⟩ (hM H.size) ⟨kx_callB hF.1 ht hlink hrc hR, ht _ hF.2.1, by rw [hC]; exact ht _ hF.2.2⟩ ⟨ws_blindX _ _, va_recv hK hS.1 hci he, fun U hU hW => ⟨rfl, ⟨by rw [hU], by rw [hU]; exact hS.1, va_K.moved hW.alike hK, hS.2.1.weaken (fun _ _ _ _ => trivial), hZ.call hS.2.2 (ws_free hS hA) hU hW⟩, hY.warm hW⟩⟩ rfl hn hls hst (lv_room hcat) hdg hz) hS.2.2 (fun q _ h => hF9 q h) hF9 (fun q _ h => hF9 q h) (fun E ce q9 u t H1 locs1 ht hvm hp hB hz1 hk1 hS1 hce hcv hcl => ?_) (fun r u t H1 locs1 ht hvm hw hB hz1 hk1 hS1 => ?_)
  · obtain ⟨hKX, hP1, hK1, hD1⟩ := hB
    rw [ht] at hP1
    exact kx E u H1 locs1 ce q9 ⟨hP1, hD1.weaken (fun k q _ h => hF9 q.1 h), hS1⟩ hKX hce hcv hcl
  · obtain ⟨hP1, hK1, hD1⟩ := hB
    rw [ht] at hP1
    exact kk r u H1 locs1 ⟨hP1, hD1.weaken (fun k q _ h => hF9 q.1 h), hS1⟩ hw
theorem kx_VD {y : MethodName} {c' : ByteArray} {n' np idx nL mc' ms' : Nat} {ret' : Option FieldType} {rm : Room} {own : String} {b : Addr} {As rest st0 : List Value} {K : UInt64 → Mem → Prop} {KX : String → Mem → Prop} (hM : XD l X y c' n' ret' rm mc' ms' (.ref b :: As) σ K KX) (hF : MFV y c' n' ret' np) (hlink : Cond.methodLink own idx y ∈ gw)
    (hx : p.tables.exec = Jvm.exec) (hb : c.code = cc) (hml : c.maxLocals = nL) (hown : s.vm.findClass own = some m.cls) (ht : ∀ w ∈ gw, w.before args s = true) (hK : va_K (gD X) cls (tysW X) s) (hZ : ZF X A s s.heap) (hS : WS X A s.heap σ H locs) (hA : ∀ q, s.heap.size ≤ q → A q) (hY : YF s) (q0 ci : Nat) {C : vw_C} {fs : List Value} (hci : cls[ci]? = some C) (hC : C.1 = y.cls) (he : (wW X σ)[q0]? = some (b, .inr (ci, fs)))
    (hrc : rm.cells = mc' ∧ rm.slots = ms') (hR : rm.frames + 1 ≤ R.frames ∧ 8 + (n' + 11) + rm.locals ≤ R.locals) (hn : As.length = np) (hls : ls.size = nL) (hst : st0 = As.reverse ++ .ref b :: rest) (hcat : (rest.map fun v => v.category).sum ≤ 8) (hz : cells + mc' ≤ R.cells ∧ slots + ms' ≤ R.slots) (hdg : decode cc pc = .ok (.invokevirtual idx, 3)) (hout : ∀ x ∈ c.exceptionTable.toList, False) (hlocks : meth.locks = false) (hm : cells + mc' ≤ mc ∧ slots + ms' ≤ ms)
    (kk : ∀ (r : UInt64) (σ : Mem) (H : Heap) (locs : List Loc), WS X A s.heap σ H locs → K r σ → W p l e R s m args below meth c H locs (cells + mc') (slots + ms') (vx_MQ below Qc (XB X KX A) args s mc ms A) (F0 m (pc + 3) ls (.double r :: rest))) : W p l e R s m args below meth c H locs cells slots (vx_MQ below Qc (XB X KX A) args s mc ms A) (F0 m pc ls st0) :=
  kh_VD hM hF hlink hx hb hml hown ht hK hZ hS hA hY q0 ci hci hC he hrc hR hn hls hst hcat hz hdg (fun E σ H locs ce q9 hS h hce hcv hcl => vx_out (fun x hx => (hout x hx).elim) hlocks hce hcv hcl (fun t ht hvm => ⟨σ, trivial, ⟨h, by rw [ht]; exact hS.1, va_K.moved hvm hK, hS.2.1⟩, hS.2.2.F ht⟩) hS.2.2.2.2 hm.1 hm.2) kk
theorem kh_VF {y : MethodName} {c' : ByteArray} {n' np idx nL mc' ms' : Nat} {ret' : Option FieldType} {rm : Room} {own : String} {b : Addr} {As rest st0 : List Value} {K : UInt32 → Mem → Prop} {KX : String → Mem → Prop} (hM : XFl l X y c' n' ret' rm mc' ms' (.ref b :: As) σ K KX) (hF : MFV y c' n' ret' np) (hlink : Cond.methodLink own idx y ∈ gw)
    (hx : p.tables.exec = Jvm.exec) (hb : c.code = cc) (hml : c.maxLocals = nL) (hown : s.vm.findClass own = some m.cls) (ht : ∀ w ∈ gw, w.before args s = true) (hK : va_K (gD X) cls (tysW X) s) (hZ : ZF X A s s.heap) (hS : WS X A s.heap σ H locs) (hA : ∀ q, s.heap.size ≤ q → A q) (hY : YF s) (q0 ci : Nat) {C : vw_C} {fs : List Value} (hci : cls[ci]? = some C) (hC : C.1 = y.cls) (he : (wW X σ)[q0]? = some (b, .inr (ci, fs)))
    (hrc : rm.cells = mc' ∧ rm.slots = ms') (hR : rm.frames + 1 ≤ R.frames ∧ 8 + (n' + 11) + rm.locals ≤ R.locals) (hn : As.length = np) (hls : ls.size = nL) (hst : st0 = As.reverse ++ .ref b :: rest) (hcat : (rest.map fun v => v.category).sum ≤ 8) (hz : cells + mc' ≤ R.cells ∧ slots + ms' ≤ R.slots) (hdg : decode cc pc = .ok (.invokevirtual idx, 3))
    (kx : ∀ (E : String) (σ : Mem) (H : Heap) (locs : List Loc) (ce : Cell) (q9 : Addr), WS X A s.heap σ H locs → KX E σ → H[q9]? = some ce → ce.vm = .none → s.vm.findClass E = some ce.cls → vx_W p l e R s m args below meth c H locs (cells + mc') (slots + ms') Q (F0 m pc ls rest) q9)
    (kk : ∀ (r : UInt32) (σ : Mem) (H : Heap) (locs : List Loc), WS X A s.heap σ H locs → K r σ → W p l e R s m args below meth c H locs (cells + mc') (slots + ms') Q (F0 m (pc + 3) ls (.float r :: rest))) : W p l e R s m args below meth c H locs cells slots Q (F0 m pc ls st0) := by
  have hF9 := ws_free hS hA
  refine vx_callf (vx_runV (cc := cc) (nL := nL) (Ts := gw) (own := own) (C := C.1) (rest := rest) ⟨hx, hb, hml, hown, ht⟩ (hM H.size) ⟨kx_callB hF.1 ht hlink hrc hR, ht _ hF.2.1, by rw [hC]; exact ht _ hF.2.2⟩ ⟨ws_blindX _ _, va_recv hK hS.1 hci he, fun U hU hW => ⟨rfl, ⟨by rw [hU], by rw [hU]; exact hS.1, va_K.moved hW.alike hK, hS.2.1.weaken (fun _ _ _ _ => trivial), hZ.call hS.2.2 (ws_free hS hA) hU hW⟩, hY.warm hW⟩⟩ rfl hn hls hst (lv_room hcat) hdg hz) hS.2.2 (fun q _ h => hF9 q h) hF9 (fun q _ h => hF9 q h) (fun E ce q9 u t H1 locs1 ht hvm hp hB hz1 hk1 hS1 hce hcv hcl => ?_) (fun r u t H1 locs1 ht hvm hw hB hz1 hk1 hS1 => ?_)
  · obtain ⟨hKX, hP1, hK1, hD1⟩ := hB
    rw [ht] at hP1
    exact kx E u H1 locs1 ce q9 ⟨hP1, hD1.weaken (fun k q _ h => hF9 q.1 h), hS1⟩ hKX hce hcv hcl
  · obtain ⟨hP1, hK1, hD1⟩ := hB
    rw [ht] at hP1
    exact kk r u H1 locs1 ⟨hP1, hD1.weaken (fun k q _ h => hF9 q.1 h), hS1⟩ hw
theorem kx_VF {y : MethodName} {c' : ByteArray} {n' np idx nL mc' ms' : Nat} {ret' : Option FieldType} {rm : Room} {own : String} {b : Addr} {As rest st0 : List Value} {K : UInt32 → Mem → Prop} {KX : String → Mem → Prop} (hM : XFl l X y c' n' ret' rm mc' ms' (.ref b :: As) σ K KX) (hF : MFV y c' n' ret' np) (hlink : Cond.methodLink own idx y ∈ gw)
    (hx : p.tables.exec = Jvm.exec) (hb : c.code = cc) (hml : c.maxLocals = nL) (hown : s.vm.findClass own = some m.cls) (ht : ∀ w ∈ gw, w.before args s = true) (hK : va_K (gD X) cls (tysW X) s) (hZ : ZF X A s s.heap) (hS : WS X A s.heap σ H locs) (hA : ∀ q, s.heap.size ≤ q → A q) (hY : YF s) (q0 ci : Nat) {C : vw_C} {fs : List Value} (hci : cls[ci]? = some C) (hC : C.1 = y.cls) (he : (wW X σ)[q0]? = some (b, .inr (ci, fs)))
    (hrc : rm.cells = mc' ∧ rm.slots = ms') (hR : rm.frames + 1 ≤ R.frames ∧ 8 + (n' + 11) + rm.locals ≤ R.locals) (hn : As.length = np) (hls : ls.size = nL) (hst : st0 = As.reverse ++ .ref b :: rest) (hcat : (rest.map fun v => v.category).sum ≤ 8) (hz : cells + mc' ≤ R.cells ∧ slots + ms' ≤ R.slots) (hdg : decode cc pc = .ok (.invokevirtual idx, 3)) (hout : ∀ x ∈ c.exceptionTable.toList, False) (hlocks : meth.locks = false) (hm : cells + mc' ≤ mc ∧ slots + ms' ≤ ms)
    (kk : ∀ (r : UInt32) (σ : Mem) (H : Heap) (locs : List Loc), WS X A s.heap σ H locs → K r σ → W p l e R s m args below meth c H locs (cells + mc') (slots + ms') (vx_MQ below Qc (XB X KX A) args s mc ms A) (F0 m (pc + 3) ls (.float r :: rest))) : W p l e R s m args below meth c H locs cells slots (vx_MQ below Qc (XB X KX A) args s mc ms A) (F0 m pc ls st0) :=
  kh_VF hM hF hlink hx hb hml hown ht hK hZ hS hA hY q0 ci hci hC he hrc hR hn hls hst hcat hz hdg (fun E σ H locs ce q9 hS h hce hcv hcl => vx_out (fun x hx => (hout x hx).elim) hlocks hce hcv hcl (fun t ht hvm => ⟨σ, trivial, ⟨h, by rw [ht]; exact hS.1, va_K.moved hvm hK, hS.2.1⟩, hS.2.2.F ht⟩) hS.2.2.2.2 hm.1 hm.2) kk
theorem kh_SI {y : MethodName} {c' : ByteArray} {n' np idx nL mc' ms' : Nat} {ret' : Option FieldType} {rm : Room} {own : String} {As rest st0 : List Value} {K : Int32 → Mem → Prop} {KX : String → Mem → Prop} (hM : XI l X y c' n' ret' rm mc' ms' As σ K KX) (hF : MFS y c' n' ret' np) (hlink : Cond.methodLink own idx y ∈ gw)
    (hx : p.tables.exec = Jvm.exec) (hb : c.code = cc) (hml : c.maxLocals = nL) (hown : s.vm.findClass own = some m.cls) (ht : ∀ w ∈ gw, w.before args s = true) (hK : va_K (gD X) cls (tysW X) s) (hZ : ZF X A s s.heap) (hS : WS X A s.heap σ H locs) (hA : ∀ q, s.heap.size ≤ q → A q) (hY : YF s) 
    (hrc : rm.cells = mc' ∧ rm.slots = ms') (hR : rm.frames + 1 ≤ R.frames ∧ 8 + (n' + 11) + rm.locals ≤ R.locals) (hn : As.length = np) (hls : ls.size = nL) (hst : st0 = As.reverse ++ rest) (hcat : (rest.map fun v => v.category).sum ≤ 8) (hz : cells + mc' ≤ R.cells ∧ slots + ms' ≤ R.slots) (hdg : decode cc pc = .ok (.invokestatic idx, 3))
    (kx : ∀ (E : String) (σ : Mem) (H : Heap) (locs : List Loc) (ce : Cell) (q9 : Addr), WS X A s.heap σ H locs → KX E σ → H[q9]? = some ce → ce.vm = .none → s.vm.findClass E = some ce.cls → vx_W p l e R s m args below meth c H locs (cells + mc') (slots + ms') Q (F0 m pc ls rest) q9)
    (kk : ∀ (r : Int32) (σ : Mem) (H : Heap) (locs : List Loc), WS X A s.heap σ H locs → K r σ → W p l e R s m args below meth c H locs (cells + mc') (slots + ms') Q (F0 m (pc + 3) ls (.int r :: rest))) : W p l e R s m args below meth c H locs cells slots Q (F0 m pc ls st0) := by
  have hF9 := ws_free hS hA
  refine vx_calli (vx_runS (cc := cc) (nL := nL) (Ts := gw) (own := own) (rest := rest) ⟨hx, hb, hml, hown, ht⟩ (hM H.size) ⟨kx_callB hF.1 ht hlink hrc hR, ht _ hF.2⟩ ⟨ws_blindX _ _, fun U hU hW => ⟨rfl, ⟨by rw [hU], by rw [hU]; exact hS.1, va_K.moved hW.alike hK, hS.2.1.weaken (fun _ _ _ _ => trivial), hZ.call hS.2.2 (ws_free hS hA) hU hW⟩, hY.warm hW⟩⟩ rfl hn hls hst (lv_room hcat) hdg hz) hS.2.2 (fun q _ h => hF9 q h) hF9 (fun q _ h => hF9 q h) (fun E ce q9 u t H1 locs1 ht hvm hp hB hz1 hk1 hS1 hce hcv hcl => ?_) (fun r u t H1 locs1 ht hvm hw hB hz1 hk1 hS1 => ?_)
  · obtain ⟨hKX, hP1, hK1, hD1⟩ := hB
    rw [ht] at hP1
    exact kx E u H1 locs1 ce q9 ⟨hP1, hD1.weaken (fun k q _ h => hF9 q.1 h), hS1⟩ hKX hce hcv hcl
  · obtain ⟨hP1, hK1, hD1⟩ := hB
    rw [ht] at hP1
    exact kk r u H1 locs1 ⟨hP1, hD1.weaken (fun k q _ h => hF9 q.1 h), hS1⟩ hw
theorem kx_SI {y : MethodName} {c' : ByteArray} {n' np idx nL mc' ms' : Nat} {ret' : Option FieldType} {rm : Room} {own : String} {As rest st0 : List Value} {K : Int32 → Mem → Prop} {KX : String → Mem → Prop} (hM : XI l X y c' n' ret' rm mc' ms' As σ K KX) (hF : MFS y c' n' ret' np) (hlink : Cond.methodLink own idx y ∈ gw)
    (hx : p.tables.exec = Jvm.exec) (hb : c.code = cc) (hml : c.maxLocals = nL) (hown : s.vm.findClass own = some m.cls) (ht : ∀ w ∈ gw, w.before args s = true) (hK : va_K (gD X) cls (tysW X) s) (hZ : ZF X A s s.heap) (hS : WS X A s.heap σ H locs) (hA : ∀ q, s.heap.size ≤ q → A q) (hY : YF s) 
    (hrc : rm.cells = mc' ∧ rm.slots = ms') (hR : rm.frames + 1 ≤ R.frames ∧ 8 + (n' + 11) + rm.locals ≤ R.locals) (hn : As.length = np) (hls : ls.size = nL) (hst : st0 = As.reverse ++ rest) (hcat : (rest.map fun v => v.category).sum ≤ 8) (hz : cells + mc' ≤ R.cells ∧ slots + ms' ≤ R.slots) (hdg : decode cc pc = .ok (.invokestatic idx, 3)) (hout : ∀ x ∈ c.exceptionTable.toList, False) (hlocks : meth.locks = false) (hm : cells + mc' ≤ mc ∧ slots + ms' ≤ ms)
    (kk : ∀ (r : Int32) (σ : Mem) (H : Heap) (locs : List Loc), WS X A s.heap σ H locs → K r σ → W p l e R s m args below meth c H locs (cells + mc') (slots + ms') (vx_MQ below Qc (XB X KX A) args s mc ms A) (F0 m (pc + 3) ls (.int r :: rest))) : W p l e R s m args below meth c H locs cells slots (vx_MQ below Qc (XB X KX A) args s mc ms A) (F0 m pc ls st0) :=
  kh_SI hM hF hlink hx hb hml hown ht hK hZ hS hA hY hrc hR hn hls hst hcat hz hdg (fun E σ H locs ce q9 hS h hce hcv hcl => vx_out (fun x hx => (hout x hx).elim) hlocks hce hcv hcl (fun t ht hvm => ⟨σ, trivial, ⟨h, by rw [ht]; exact hS.1, va_K.moved hvm hK, hS.2.1⟩, hS.2.2.F ht⟩) hS.2.2.2.2 hm.1 hm.2) kk
theorem kh_SV {y : MethodName} {c' : ByteArray} {n' np idx nL mc' ms' : Nat} {ret' : Option FieldType} {rm : Room} {own : String} {As rest st0 : List Value} {K : Mem → Prop} {KX : String → Mem → Prop} (hM : XV l X y c' n' ret' rm mc' ms' As σ K KX) (hF : MFS y c' n' ret' np) (hlink : Cond.methodLink own idx y ∈ gw)
    (hx : p.tables.exec = Jvm.exec) (hb : c.code = cc) (hml : c.maxLocals = nL) (hown : s.vm.findClass own = some m.cls) (ht : ∀ w ∈ gw, w.before args s = true) (hK : va_K (gD X) cls (tysW X) s) (hZ : ZF X A s s.heap) (hS : WS X A s.heap σ H locs) (hA : ∀ q, s.heap.size ≤ q → A q) (hY : YF s) 
    (hrc : rm.cells = mc' ∧ rm.slots = ms') (hR : rm.frames + 1 ≤ R.frames ∧ 8 + (n' + 11) + rm.locals ≤ R.locals) (hn : As.length = np) (hls : ls.size = nL) (hst : st0 = As.reverse ++ rest) (hcat : (rest.map fun v => v.category).sum ≤ 8) (hz : cells + mc' ≤ R.cells ∧ slots + ms' ≤ R.slots) (hdg : decode cc pc = .ok (.invokestatic idx, 3))
    (kx : ∀ (E : String) (σ : Mem) (H : Heap) (locs : List Loc) (ce : Cell) (q9 : Addr), WS X A s.heap σ H locs → KX E σ → H[q9]? = some ce → ce.vm = .none → s.vm.findClass E = some ce.cls → vx_W p l e R s m args below meth c H locs (cells + mc') (slots + ms') Q (F0 m pc ls rest) q9)
    (kk : ∀ (σ : Mem) (H : Heap) (locs : List Loc), WS X A s.heap σ H locs → K σ → W p l e R s m args below meth c H locs (cells + mc') (slots + ms') Q (F0 m (pc + 3) ls (rest))) : W p l e R s m args below meth c H locs cells slots Q (F0 m pc ls st0) := by
  have hF9 := ws_free hS hA
  refine vx_callv (vx_runS (cc := cc) (nL := nL) (Ts := gw) (own := own) (rest := rest) ⟨hx, hb, hml, hown, ht⟩ (hM H.size) ⟨kx_callB hF.1 ht hlink hrc hR, ht _ hF.2⟩ ⟨ws_blindX _ _, fun U hU hW => ⟨rfl, ⟨by rw [hU], by rw [hU]; exact hS.1, va_K.moved hW.alike hK, hS.2.1.weaken (fun _ _ _ _ => trivial), hZ.call hS.2.2 (ws_free hS hA) hU hW⟩, hY.warm hW⟩⟩ rfl hn hls hst (lv_room hcat) hdg hz) hS.2.2 (fun q _ h => hF9 q h) hF9 (fun q _ h => hF9 q h) (fun E ce q9 u t H1 locs1 ht hvm hp hB hz1 hk1 hS1 hce hcv hcl => ?_) (fun u t H1 locs1 ht hvm hw hB hz1 hk1 hS1 => ?_)
  · obtain ⟨hKX, hP1, hK1, hD1⟩ := hB
    rw [ht] at hP1
    exact kx E u H1 locs1 ce q9 ⟨hP1, hD1.weaken (fun k q _ h => hF9 q.1 h), hS1⟩ hKX hce hcv hcl
  · obtain ⟨hP1, hK1, hD1⟩ := hB
    rw [ht] at hP1
    exact kk u H1 locs1 ⟨hP1, hD1.weaken (fun k q _ h => hF9 q.1 h), hS1⟩ hw
theorem kx_SV {y : MethodName} {c' : ByteArray} {n' np idx nL mc' ms' : Nat} {ret' : Option FieldType} {rm : Room} {own : String} {As rest st0 : List Value} {K : Mem → Prop} {KX : String → Mem → Prop} (hM : XV l X y c' n' ret' rm mc' ms' As σ K KX) (hF : MFS y c' n' ret' np) (hlink : Cond.methodLink own idx y ∈ gw)
    (hx : p.tables.exec = Jvm.exec) (hb : c.code = cc) (hml : c.maxLocals = nL) (hown : s.vm.findClass own = some m.cls) (ht : ∀ w ∈ gw, w.before args s = true) (hK : va_K (gD X) cls (tysW X) s) (hZ : ZF X A s s.heap) (hS : WS X A s.heap σ H locs) (hA : ∀ q, s.heap.size ≤ q → A q) (hY : YF s) 
    (hrc : rm.cells = mc' ∧ rm.slots = ms') (hR : rm.frames + 1 ≤ R.frames ∧ 8 + (n' + 11) + rm.locals ≤ R.locals) (hn : As.length = np) (hls : ls.size = nL) (hst : st0 = As.reverse ++ rest) (hcat : (rest.map fun v => v.category).sum ≤ 8) (hz : cells + mc' ≤ R.cells ∧ slots + ms' ≤ R.slots) (hdg : decode cc pc = .ok (.invokestatic idx, 3)) (hout : ∀ x ∈ c.exceptionTable.toList, False) (hlocks : meth.locks = false) (hm : cells + mc' ≤ mc ∧ slots + ms' ≤ ms)
    (kk : ∀ (σ : Mem) (H : Heap) (locs : List Loc), WS X A s.heap σ H locs → K σ → W p l e R s m args below meth c H locs (cells + mc') (slots + ms') (vx_MQ below Qc (XB X KX A) args s mc ms A) (F0 m (pc + 3) ls (rest))) : W p l e R s m args below meth c H locs cells slots (vx_MQ below Qc (XB X KX A) args s mc ms A) (F0 m pc ls st0) :=
  kh_SV hM hF hlink hx hb hml hown ht hK hZ hS hA hY hrc hR hn hls hst hcat hz hdg (fun E σ H locs ce q9 hS h hce hcv hcl => vx_out (fun x hx => (hout x hx).elim) hlocks hce hcv hcl (fun t ht hvm => ⟨σ, trivial, ⟨h, by rw [ht]; exact hS.1, va_K.moved hvm hK, hS.2.1⟩, hS.2.2.F ht⟩) hS.2.2.2.2 hm.1 hm.2) kk
end V1
