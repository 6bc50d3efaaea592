/-! text written -/
theorem nar_c {v : Int} (h : 0 ≤ v ∧ v < 65536) : vp_nar .char (zI v) = zI v := by
  rw [zI_t h.1]
  have := (pk_charN (q := v.toNat) (by omega)).1
  unfold vp_nar
  change narrow .char (.int (Int32.ofNat v.toNat)) = .int (Int32.ofNat v.toNat) at this
  rw [this]
theorem c16 {v : Int} (h : 0 ≤ v ∧ v < 65536) : ((zI v).toUInt32 % 65536).toInt32 = zI v := by
  rw [zI_t h.1]
  apply Int32.toBitVec_inj.1
  apply BitVec.eq_of_toNat_eq
  simp [Int32.toBitVec_ofNat']
  omega
def tx (T : Int → Int) (n : Int) (c : Nat → Int32) : Nat → Int32 := fun j => if (j : Int) < n then zI (T j) else c j
theorem tx_0 (T : Int → Int) (c : Nat → Int32) : tx T 0 c = c := by
  funext j
  exact if_neg (by omega)
theorem tx_s (T : Int → Int) {n : Int} (hn : 0 ≤ n) (c : Nat → Int32) : upd (tx T n c) n.toNat (zI (T n)) = tx T (n + 1) c := by
  funext j
  unfold upd tx
  by_cases h : j = n.toNat
  · rw [if_pos h, if_pos (by omega), show ((j : Nat) : Int) = n by omega]
  · rw [if_neg h]
    by_cases h2 : (j : Int) < n
    · rw [if_pos h2, if_pos (by omega)]
    · rw [if_neg h2, if_neg (by omega)]
def SC (σ : Mem) (T : Int → Int) (n : Int) : Mem := va_up (st σ 0 7 (zI n)) 24 (tx T n (σ 24))
def SM (σ : Mem) (T : Int → Int) (n : Int) : Mem := va_up (st σ 25 15 (zI n)) 31 (tx T n (σ 31))
theorem SC_0 (σ : Mem) (T : Int → Int) : SC σ T 0 = st σ 0 7 0 := by
  unfold SC
  rw [tx_0]
  exact up_s (st σ 0 7 0) 24
theorem SM_0 (σ : Mem) (T : Int → Int) : SM σ T 0 = st σ 25 15 0 := by
  unfold SM
  rw [tx_0]
  exact up_s (st σ 25 15 0) 31
theorem sc_nf (σ : Mem) {c d : Nat} (hcd : c ≠ d) (i j : Nat) (x v w : Int32) (f : Nat → Int32) : st (st (va_up (st σ c i x) d f) d j v) c i w = va_up (st σ c i w) d (upd f j v) := by
  funext q k
  by_cases h : q = c
  · subst h
    have e1 : ∀ X : Mem, ∀ g, va_up X d g q = X q := fun X g => by unfold va_up; rw [if_neg hcd]
    rw [e1]
    by_cases h2 : k = i
    · subst h2; rw [st_e, st_e]
    · rw [st_j _ _ _ h2, st_j _ _ _ h2, st_c _ _ _ hcd, e1, st_j _ _ _ h2]
  · rw [st_c _ _ _ h]
    by_cases h2 : q = d
    · subst h2
      rw [up_e, st_u, up_e]
    · have e1 : ∀ X : Mem, ∀ g, va_up X d g q = X q := fun X g => by unfold va_up; rw [if_neg h2]
      rw [st_c _ _ _ h2, e1, e1, st_c _ _ _ h, st_c _ _ _ h]
theorem q_put {σ : Mem} {K : Mem → Prop} {T : Int → Int} {n v : Int} (hn : 0 ≤ n ∧ n < 28) (hv : T n = v) (hb : 0 ≤ v ∧ v < 65536) (h : K (SC σ T (n + 1))) : wp_X4_put (zI v) (SC σ T n) K := by
  unfold wp_X4_put
  rw [show SC σ T n 0 7 = zI n from st_e σ 0 7 _]
  rw [zl_0, zl_28]
  refine br_lt (by omega) (by omega) (fun c => absurd c (by omega)) (fun _ => ?_)
  refine br_le (by omega) (by omega) (fun c => absurd c (by omega)) (fun _ => ⟨zI_in (by omega) (by omega) (by decide), fun σ3 e3 σ4 e4 => ?_⟩)
  subst e3
  rw [zI_nat hn.1 (by omega), nar_c hb, show st (SC σ T n) 24 n.toNat (zI v) 0 7 = zI n from st_e σ 0 7 _, zl_1, zI_add] at e4
  subst e4
  have e : st (st (SC σ T n) 24 n.toNat (zI v)) 0 7 (zI (n + 1)) = SC σ T (n + 1) := by
    unfold SC
    rw [sc_nf σ (show (0 : Nat) ≠ 24 by decide), ← hv, tx_s T hn.1]
  rw [e]
  exact h
theorem m_writes {σ : Mem} {K : Mem → Prop} {T : Int → Int} {n v : Int} (hn : 0 ≤ n ∧ n < 60) (hv : T n = v) (hb : 0 ≤ v ∧ v < 65536) (h : K (SM σ T (n + 1))) : wp_X5_writes (zI v) (SM σ T n) K := by
  unfold wp_X5_writes
  rw [show SM σ T n 25 15 = zI n from st_e σ 25 15 _]
  refine ⟨zI_in (by omega) (by omega) (by decide), fun σ3 e3 σ4 e4 => ?_⟩
  subst e3
  rw [zI_nat hn.1 (by omega), c16 hb, nar_c hb, show st (SM σ T n) 31 n.toNat (zI v) 25 15 = zI n from st_e σ 25 15 _, zl_1, zI_add] at e4
  subst e4
  have e : st (st (SM σ T n) 31 n.toNat (zI v)) 25 15 (zI (n + 1)) = SM σ T (n + 1) := by
    unfold SM
    rw [sc_nf σ (show (25 : Nat) ≠ 31 by decide), ← hv, tx_s T hn.1]
  rw [e]
  exact h
theorem d_2 : ∀ s < 28, Int32.ofNat s / 2 = Int32.ofNat (s / 2) := by decide +kernel
theorem d_10 : ∀ s < 28, Int32.ofNat s / 10 = Int32.ofNat (s / 10) := by decide +kernel
theorem zd_2 {s : Int} (h : 0 ≤ s ∧ s < 28) : zI s / (2 : Int32) = zI (s / 2) := by
  rw [zI_t h.1, d_2 _ (by omega), zI_t (by omega), show (s / 2).toNat = s.toNat / 2 by omega]
theorem zd_10 {s : Int} (h : 0 ≤ s ∧ s < 28) : zI s / (10 : Int32) = zI (s / 10) := by
  rw [zI_t h.1, d_10 _ (by omega), zI_t (by omega), show (s / 10).toNat = s.toNat / 10 by omega]
theorem q_putNumber1 {σ : Mem} {K : Mem → Prop} {T : Int → Int} {n t : Int} (hn : 0 ≤ n ∧ n < 28) (ht : 0 ≤ t ∧ t < 10) (hv : T n = 48 + t) (h : K (SC σ T (n + 1))) : wp_X4_putNumber (zI t) (SC σ T n) K := by
  unfold wp_X4_putNumber wpJ_X4_putNumber_18
  rw [zd_10 (by omega), zl_10, zl_48, zI_mul, zI_sub, zI_add, c16 (by omega)]
  refine br_lt (by omega) (by omega) (fun _ => ?_) (fun c => absurd c (by omega))
  exact q_put hn (by omega) (by omega) h
theorem q_putNumber2 {σ : Mem} {K : Mem → Prop} {T : Int → Int} {n t : Int} (hn : 0 ≤ n ∧ n < 27) (ht : 10 ≤ t ∧ t < 20) (hv : T n = 49) (hv2 : T (n + 1) = 48 + (t - t / 10 * 10)) (h : K (SC σ T (n + 1 + 1))) : wp_X4_putNumber (zI t) (SC σ T n) K := by
  unfold wp_X4_putNumber wpJ_X4_putNumber_18
  rw [zd_10 (by omega), zl_10, zl_48, zI_mul, zI_sub, zI_add, c16 (by omega), zI_add, c16 (by omega)]
  refine br_lt (by omega) (by omega) (fun c => absurd c (by omega)) (fun _ => ?_)
  refine q_put (by omega) (by omega) (by omega) ?_
  exact q_put (by omega) (by omega) (by omega) h
def hh (s : Int) : Int := if s / 2 < 10 then 1 else 2
def TS (a : Nat → Int) (s : Int) : Int → Int := fun j => if j = 0 then (if s - s / 2 * 2 = 0 then 100 else 110) else if j < hh s then 49 else if j = hh s then 48 + (s / 2 - s / 2 / 10 * 10) else if j = hh s + 1 then 58 else if (j - hh s) - (j - hh s) / 2 * 2 = 0 then 32 else if du a ((j - hh s - 3) / 2) s = -1 then 45 else 48 + du a ((j - hh s - 3) / 2) s
section W0
variable {a : Nat → Int} {σ : Mem}
theorem TS_x {s : Int} {k : Int} (hk : 0 ≤ k) : TS a s (hh s + 2 + 2 * k) = 32 ∧ TS a s (hh s + 2 + 2 * k + 1) = if du a k s = -1 then 45 else 48 + du a k s := by
  have : hh s = 1 ∨ hh s = 2 := by unfold hh; split <;> omega
  constructor
  · unfold TS
    rw [if_neg (by omega), if_neg (by omega), if_neg (by omega), if_neg (by omega), if_pos (by omega)]
  · unfold TS
    rw [if_neg (by omega), if_neg (by omega), if_neg (by omega), if_neg (by omega), if_neg (by omega), show (hh s + 2 + 2 * k + 1 - hh s - 3) / 2 = k by omega]
theorem q_writeSlot {K : Int32 → Mem → Prop} {KX : String → Mem → Prop} (hR : RC a (σ 2)) (hW : WF a) {s : Int} (hs : -2147483648 ≤ s ∧ s < 2147483648) (h1 : ¬ (0 ≤ s ∧ s < 28) → KX "java/lang/IndexOutOfBoundsException" σ) (h : (0 ≤ s ∧ s < 28) → K (zI (hh s + 2 + 2 * a 0)) (SC σ (TS a s) (hh s + 2 + 2 * a 0))) : wp_X4_writeSlot (zI s) σ K KX := by
  have hc := hW.c
  have hh2 : hh s = 1 ∨ hh s = 2 := by unfold hh; split <;> omega
  unfold wp_X4_writeSlot wp_X4_throwUnlessSlot
  refine q_isSlot hs.1 hs.2 (fun c1 c2 => one_ne' ?_) (fun c => zero_eq' (h1 c))
  intro σ2 e2
  rw [← SC_0 σ (TS a s)] at e2
  subst e2
  rw [zd_2 ⟨c1, c2⟩, zl_2, zI_mul, zI_sub]
  have hJ : ∀ v : Int, TS a s 0 = v → (v = 100 ∨ v = 110) → wpJ_X4_writeSlot_24 K KX (zI s) (zI v) (SC σ (TS a s) 0) := by
    intro v hv hv2
    unfold wpJ_X4_writeSlot_24
    refine q_put (by omega) hv (by omega) ?_
    rw [zd_2 ⟨c1, c2⟩]
    have hN : ∀ K' : Mem → Prop, K' (SC σ (TS a s) (hh s + 1)) → wp_X4_putNumber (zI (s / 2)) (SC σ (TS a s) (0 + 1)) K' := by
      intro K' hK'
      by_cases c : s / 2 < 10
      · have e : hh s = 1 := if_pos c
        rw [e] at hK'
        refine q_putNumber1 (by omega) (by omega) ?_ hK'
        unfold TS
        rw [e, if_neg (by decide), if_neg (by decide), if_pos (by decide)]
        omega
      · have e : hh s = 2 := if_neg c
        rw [e] at hK'
        refine q_putNumber2 (by omega) (by omega) ?_ ?_ hK'
        · unfold TS
          rw [e, if_neg (by decide), if_pos (by decide)]
        · unfold TS
          rw [e, if_neg (by decide), if_neg (by decide), if_pos (by decide)]
    refine hN _ ?_
    refine q_put (v := 58) (by omega) ?_ (by decide) ?_
    · unfold TS
      rw [if_neg (by omega), if_neg (by omega), if_neg (by omega), if_pos rfl]
    · have h9 := lpI (F := wpF_X4_writeSlot_42 K KX) (fun i => (zI s, zI i, SC σ (TS a s) (hh s + 2 + 2 * i))) (fun i => 0 ≤ i) (a 0) (fun B hP => ?_) (fun i B hi hP hB => ?_) 0 (by omega) (by decide)
      · rw [show hh s + 2 + 2 * 0 = hh s + 1 + 1 by omega] at h9
        exact h9
      · show wpS_X4_writeSlot_42 K KX B (zI s) (zI (a 0)) (SC σ (TS a s) (hh s + 2 + 2 * a 0))
        unfold wpS_X4_writeSlot_42
        refine q_gates (σ := SC σ (TS a s) (hh s + 2 + 2 * a 0)) hR (br_le (by omega) (by omega) (fun _ => ?_) (fun c => absurd c (by omega)))
        rw [show SC σ (TS a s) (hh s + 2 + 2 * a 0) 0 7 = zI (hh s + 2 + 2 * a 0) from st_e σ 0 7 _]
        exact h ⟨c1, c2⟩
      · show wpS_X4_writeSlot_42 K KX B (zI s) (zI i) (SC σ (TS a s) (hh s + 2 + 2 * i))
        have hx := TS_x (a := a) (s := s) hP
        have hd := hW.dq (k := i) (s := s) ⟨hP, by omega⟩ ⟨c1, c2⟩
        unfold wpS_X4_writeSlot_42 wp_X4_putNumberOr
        refine q_gates (σ := SC σ (TS a s) (hh s + 2 + 2 * i)) hR (br_le (by omega) (by omega) (fun c => absurd c (by omega)) (fun _ => ?_))
        refine q_put (v := 32) (by omega) hx.1 (by decide) ?_
        refine q_guardOn (σ := SC σ (TS a s) (hh s + 2 + 2 * i + 1)) hR hW hP hi c1 c2 ?_
        have hB2 := hB (by omega)
        rw [show hh s + 2 + 2 * (i + 1) = hh s + 2 + 2 * i + 1 + 1 by omega] at hB2
        refine br_nm1 (by omega) (fun c => ?_) (fun c => ?_)
        · refine q_put (v := 45) (by omega) (by rw [hx.2, if_pos c]) (by decide) (fun v14 e14 => ?_)
          rw [zl_1, zI_add] at e14
          subst e14
          exact hB2
        · refine q_putNumber1 (by omega) (by omega) (by rw [hx.2, if_neg c]) (fun v14 e14 => ?_)
          rw [zl_1, zI_add] at e14
          subst e14
          exact hB2
  refine br_n0 (by omega) (fun c => hJ 100 ?_ (Or.inl rfl)) (fun c => hJ 110 ?_ (Or.inr rfl))
  · unfold TS
    rw [if_pos rfl, if_pos c]
  · unfold TS
    rw [if_pos rfl, if_neg c]
theorem m_writeSlot {K : Int32 → Mem → Prop} (hG : RG a (σ 26)) (hW : WF a) {s : Int} (hs : -2147483648 ≤ s ∧ s < 2147483648) (h1 : ¬ (0 ≤ s ∧ s < 28) → K 0 (st σ 25 7 1)) (h : (0 ≤ s ∧ s < 28) → K (zI (hh s + 2 + 2 * a 0)) (SM (st σ 25 7 0) (TS a s) (hh s + 2 + 2 * a 0))) : wp_X5_writeSlot (zI s) σ K := by
  have hc := hW.c
  have hh2 : hh s = 1 ∨ hh s = 2 := by unfold hh; split <;> omega
  unfold wp_X5_writeSlot wpJ_X5_writeSlot_13
  refine m_isSlot hs (fun c1 c2 => one_ne (m_f0 (zero_eq ?_))) (fun c => zero_eq (m_f1 (n := 1) (by decide) (one_ne (h1 c))))
  intro σ2 e2
  rw [← SM_0 (st σ 25 7 0) (TS a s)] at e2
  subst e2
  rw [zd_2 ⟨c1, c2⟩, zl_2, zI_mul, zI_sub]
  have hJ : ∀ v : Int, TS a s 0 = v → (v = 100 ∨ v = 110) → wpJ_X5_writeSlot_40 K (zI s) (zI v) (SM (st σ 25 7 0) (TS a s) 0) := by
    intro v hv hv2
    unfold wpJ_X5_writeSlot_40
    refine m_writes (by omega) hv (by omega) ?_
    have hJ2 : wpJ_X5_writeSlot_55 K (zI s) (SM (st σ 25 7 0) (TS a s) (hh s)) := by
      unfold wpJ_X5_writeSlot_55
      rw [zd_2 ⟨c1, c2⟩, zd_10 (by omega), zl_10, zl_48, zI_mul, zI_sub, zI_add]
      refine m_writes (by omega) (by unfold TS; rw [if_neg (by omega), if_neg (by omega), if_pos rfl]) (by omega) ?_
      refine m_writes (v := 58) (by omega) (by unfold TS; rw [if_neg (by omega), if_neg (by omega), if_neg (by omega), if_pos rfl]) (by decide) ?_
      have h9 := lpI (F := wpF_X5_writeSlot_76 K) (fun i => (zI s, zI i, SM (st σ 25 7 0) (TS a s) (hh s + 2 + 2 * i))) (fun i => 0 ≤ i) (a 0) (fun B hP => ?_) (fun i B hi hP hB => ?_) 0 (by omega) (by decide)
      · rw [show hh s + 2 + 2 * 0 = hh s + 1 + 1 by omega] at h9
        exact h9
      · show wpS_X5_writeSlot_76 K B (zI s) (zI (a 0)) (SM (st σ 25 7 0) (TS a s) (hh s + 2 + 2 * a 0))
        unfold wpS_X5_writeSlot_76
        rw [show SM (st σ 25 7 0) (TS a s) (hh s + 2 + 2 * a 0) 26 = σ 26 from rfl, hG.1, show SM (st σ 25 7 0) (TS a s) (hh s + 2 + 2 * a 0) 25 15 = zI (hh s + 2 + 2 * a 0) from st_e (st σ 25 7 0) 25 15 _]
        exact br_le (by omega) (by omega) (fun _ => h ⟨c1, c2⟩) (fun c => absurd c (by omega))
      · show wpS_X5_writeSlot_76 K B (zI s) (zI i) (SM (st σ 25 7 0) (TS a s) (hh s + 2 + 2 * i))
        have hx := TS_x (a := a) (s := s) hP
        have hd := hW.dq (k := i) (s := s) ⟨hP, by omega⟩ ⟨c1, c2⟩
        have hB2 := hB (by omega)
        rw [show hh s + 2 + 2 * (i + 1) = hh s + 2 + 2 * i + 1 + 1 by omega] at hB2
        unfold wpS_X5_writeSlot_76 wpJ_X5_writeSlot_116
        rw [show SM (st σ 25 7 0) (TS a s) (hh s + 2 + 2 * i) 26 = σ 26 from rfl, hG.1]
        refine br_le (by omega) (by omega) (fun c => absurd c (by omega)) (fun _ => ?_)
        refine m_writes (v := 32) (by omega) hx.1 (by decide) ?_
        refine m_who (σ := SM (st σ 25 7 0) (TS a s) (hh s + 2 + 2 * i + 1)) hG ⟨hP, by omega⟩ ⟨c1, c2⟩ ?_
        refine br_ge0 (by omega) (fun c => ?_) (fun c => ?_)
        · refine m_who (σ := SM (st σ 25 7 0) (TS a s) (hh s + 2 + 2 * i + 1)) hG ⟨hP, by omega⟩ ⟨c1, c2⟩ ?_
          rw [zl_48, zI_add]
          refine m_writes (by omega) (by rw [hx.2, if_neg (by omega)]) (by omega) (fun v14 e14 => ?_)
          rw [zl_1, zI_add] at e14
          subst e14
          exact hB2
        · refine m_writes (v := 45) (by omega) (by rw [hx.2, if_pos (by omega)]) (by decide) (fun v14 e14 => ?_)
          rw [zl_1, zI_add] at e14
          subst e14
          exact hB2
    rw [zl_19]
    refine br_le (by omega) (by omega) (fun c => ?_) (fun c => ?_)
    · have e : hh s = 1 := if_pos (by omega)
      rw [e] at hJ2
      exact hJ2
    · have e : hh s = 2 := if_neg (by omega)
      rw [e] at hJ2
      exact m_writes (v := 49) (by omega) (by unfold TS; rw [e, if_neg (by decide), if_pos (by decide)]) (by decide) hJ2
  refine br_n0 (by omega) (fun c => hJ 100 ?_ (Or.inl rfl)) (fun c => hJ 110 ?_ (Or.inr rfl))
  · unfold TS
    rw [if_pos rfl, if_pos c]
  · unfold TS
    rw [if_pos rfl, if_neg c]
theorem TS_rng (hW : WF a) {s : Int} (hs : 0 ≤ s ∧ s < 28) {j : Int} (hj : 0 ≤ j ∧ j < hh s + 2 + 2 * a 0) : 0 ≤ TS a s j ∧ TS a s j < 65536 := by
  have hc := hW.c
  have hh2 : hh s = 1 ∨ hh s = 2 := by unfold hh; split <;> omega
  unfold TS
  split
  · split <;> omega
  · split
    · omega
    · split
      · omega
      · split
        · omega
        · split
          · omega
          · have := hW.dq (k := (j - hh s - 3) / 2) (s := s) (by omega) hs
            split <;> omega
end W0
theorem OU_tx {N n : Int} (hn : 0 ≤ n ∧ n ≤ N) {T : Int → Int} (hT : ∀ j : Int, 0 ≤ j → j < n → 0 ≤ T j ∧ T j < 65536) (c g : Nat → Int32) : OU N (zI n) (zI n) (tx T n c) (tx T n g) := by
  refine ⟨n, hn, rfl, rfl, fun j hj => ⟨(T j).toNat, ?_, ?_, ?_⟩⟩
  · have := hT j (by omega) hj
    omega
  · have := hT j (by omega) hj
    unfold tx
    rw [if_pos hj]
    exact zI_t this.1
  · have := hT j (by omega) hj
    unfold tx
    rw [if_pos hj]
    exact zI_t this.1
theorem o_37 {σ : Mem} (hI : Inv σ) (a1 a2 a3 a4 : Int32) : wplc_37 a1 a2 a3 a4 σ Inv := by
  obtain ⟨⟨a, hW, hR, hG⟩, hX⟩ := hI
  have hc := hW.c
  obtain ⟨s, rfl, hs⟩ := zI_ex a1
  have hh2 : hh s = 1 ∨ hh s = 2 := by unfold hh; split <;> omega
  unfold wplc_37 wp_L_writeSlot
  refine q_writeSlot hR hW hs (fun c => ⟨rfl, ?_⟩) (fun c σ4 e => ?_)
  · exact m_writeSlot hG hW hs (fun _ => fin_i rfl (fun c => absurd c (by decide)) ⟨⟨a, hW, hR, hG⟩, hX⟩) (fun h => absurd h c)
  · subst e
    refine m_writeSlot (σ := st (SC σ (TS a s) (hh s + 2 + 2 * a 0)) 34 0 _) hG hW hs (fun h => absurd c h) (fun _ => ?_)
    exact fin_i rfl (fun _ => rfl) ⟨⟨a, hW, hR, hG⟩, hX.1, hX.2.1, hX.2.2.1, hX.2.2.2.1, OU_tx (by omega) (fun j h0 h1 => TS_rng hW c ⟨h0, h1⟩) _ _, hX.2.2.2.2.2⟩
