/-! text written: guards, characters read, characters fed -/
section W1
variable {a : Nat → Int} {σ : Mem}
def TG (a : Nat → Int) (u : Int) : Int → Int := fun j => if held a u j = -1 then (if off a u j = true then 120 else 46) else 48 + held a u j
theorem TG_rng (a : Nat → Int) (u j : Int) : 0 ≤ TG a u j ∧ TG a u j < 65536 := by
  have := held_rng a u j
  unfold TG
  split
  · split <;> omega
  · omega
theorem q_writeGuard {K : Int32 → Mem → Prop} {KX : String → Mem → Prop} (hR : RC a (σ 2)) (hW : WF a) {u : Int} (hu : -2147483648 ≤ u ∧ u < 2147483648) (h1 : ¬ (0 ≤ u ∧ u < a 1) → KX "java/lang/IndexOutOfBoundsException" σ) (h : (0 ≤ u ∧ u < a 1) → K (zI 28) (SC σ (TG a u) 28)) : wp_X4_writeGuard (zI u) σ K KX := by
  have hc := hW.c
  unfold wp_X4_writeGuard wp_X4_throwUnlessGuard
  refine q_isGuard hR hW hu.1 hu.2 (fun c1 c2 => one_ne' ?_) (fun c => zero_eq' (h1 c))
  intro σ2 e2
  rw [← SC_0 σ (TG a u)] at e2
  subst e2
  have h9 := lpI (F := wpF_X4_writeGuard_12 K KX) (fun i => (zI u, zI i, SC σ (TG a u) i)) (fun i => 0 ≤ i) 28 (fun B hP => ?_) (fun i B hi hP hB => ?_) 0 (by omega) (by decide)
  · exact h9
  · show wpS_X4_writeGuard_12 K KX B (zI u) (zI 28) (SC σ (TG a u) 28)
    unfold wpS_X4_writeGuard_12
    rw [show SC σ (TG a u) 28 0 7 = zI 28 from st_e σ 0 7 _]
    exact ⟨fun _ => h ⟨c1, c2⟩, fun c => absurd (by decide) c⟩
  · show wpS_X4_writeGuard_12 K KX B (zI u) (zI i) (SC σ (TG a u) i)
    have hd := held_rng a u i
    have hB2 := hB (by omega)
    unfold wpS_X4_writeGuard_12 wpJ_X4_writeGuard_47 wp_X4_putNumberOr
    rw [zl_28]
    refine br_le (by omega) (by omega) (fun c => absurd c (by omega)) (fun _ => ?_)
    refine q_gateHeld (σ := SC σ (TG a u) i) hR hW (by omega) (by omega) ?_
    refine q_hasLeave (σ := SC σ (TG a u) i) hR hW ⟨c1, c2⟩ ?_
    have hP1 : held a u i ≠ -1 → wp_X4_putNumber (zI (held a u i)) (SC σ (TG a u) i) (fun σ2 => ∀ v10 : Int32, v10 = zI i + 1 → B (zI u, v10, σ2)) := fun c => by
      refine q_putNumber1 (by omega) (by omega) (by unfold TG; rw [if_neg c]) (fun v10 e10 => ?_)
      rw [zl_1, zI_add] at e10
      subst e10
      exact hB2
    by_cases c3 : off a u i = true
    · rw [if_pos c3]
      refine one_ne (br_nm1 (by omega) (fun c => ?_) hP1)
      refine q_put (v := 120) (by omega) (by unfold TG; rw [if_pos c, if_pos c3]) (by decide) (fun v10 e10 => ?_)
      rw [zl_1, zI_add] at e10
      subst e10
      exact hB2
    · rw [if_neg c3]
      refine zero_eq (br_nm1 (by omega) (fun c => ?_) hP1)
      refine q_put (v := 46) (by omega) (by unfold TG; rw [if_pos c, if_neg c3]) (by decide) (fun v10 e10 => ?_)
      rw [zl_1, zI_add] at e10
      subst e10
      exact hB2
theorem m_writeGuard {K : Int32 → Mem → Prop} (hG : RG a (σ 26)) (hW : WF a) {u : Int} (hu : -2147483648 ≤ u ∧ u < 2147483648) (h1 : ¬ (0 ≤ u ∧ u < a 1) → K 0 (st σ 25 7 1)) (h : (0 ≤ u ∧ u < a 1) → K (zI 28) (SM (st σ 25 7 0) (TG a u) 28)) : wp_X5_writeGuard (zI u) σ K := by
  have hc := hW.c
  unfold wp_X5_writeGuard
  refine m_isNone hG hW hu (fun c1 c2 => zero_eq ?_) (fun c => one_ne (h1 c))
  intro σ2 e2
  rw [← SM_0 (st σ 25 7 0) (TG a u)] at e2
  subst e2
  have h9 := lpI (F := wpF_X5_writeGuard_17 K) (fun i => (zI u, zI i, SM (st σ 25 7 0) (TG a u) i)) (fun i => 0 ≤ i) 28 (fun B hP => ?_) (fun i B hi hP hB => ?_) 0 (by omega) (by decide)
  · exact h9
  · show wpS_X5_writeGuard_17 K B (zI u) (zI 28) (SM (st σ 25 7 0) (TG a u) 28)
    unfold wpS_X5_writeGuard_17
    rw [show SM (st σ 25 7 0) (TG a u) 28 25 15 = zI 28 from st_e (st σ 25 7 0) 25 15 _]
    exact ⟨fun _ => h ⟨c1, c2⟩, fun c => absurd (by decide) c⟩
  · show wpS_X5_writeGuard_17 K B (zI u) (zI i) (SM (st σ 25 7 0) (TG a u) i)
    have hd := held_rng a u i
    have hB2 := hB (by omega)
    unfold wpS_X5_writeGuard_17 wpJ_X5_writeGuard_61
    rw [zl_28]
    refine br_le (by omega) (by omega) (fun c => absurd c (by omega)) (fun _ => ?_)
    refine m_where (σ := SM (st σ 25 7 0) (TG a u) i) hG hW ⟨c1, by omega⟩ (by omega) (br_lt0 (by omega) (fun c => ?_) (fun c => ?_))
    · refine m_isOff (σ := SM (st σ 25 7 0) (TG a u) i) hG ⟨c1, by omega⟩ ?_
      by_cases c3 : off a u i = true
      · rw [if_pos c3]
        refine one_ne ?_
        refine m_writes (v := 120) (by omega) (by unfold TG; rw [if_pos (by omega), if_pos c3]) (by decide) (fun v10 e10 => ?_)
        rw [zl_1, zI_add] at e10
        subst e10
        exact hB2
      · rw [if_neg c3]
        refine zero_eq ?_
        refine m_writes (v := 46) (by omega) (by unfold TG; rw [if_pos (by omega), if_neg c3]) (by decide) (fun v10 e10 => ?_)
        rw [zl_1, zI_add] at e10
        subst e10
        exact hB2
    · refine m_where (σ := SM (st σ 25 7 0) (TG a u) i) hG hW ⟨c1, by omega⟩ (by omega) ?_
      rw [zl_48, zI_add]
      refine m_writes (by omega) (by unfold TG; rw [if_neg (by omega)]) (by omega) (fun v10 e10 => ?_)
      rw [zl_1, zI_add] at e10
      subst e10
      exact hB2
end W1
theorem o_38 {σ : Mem} (hI : Inv σ) (a1 a2 a3 a4 : Int32) : wplc_38 a1 a2 a3 a4 σ Inv := by
  obtain ⟨⟨a, hW, hR, hG⟩, hX⟩ := hI
  obtain ⟨u, rfl, hu⟩ := zI_ex a1
  unfold wplc_38 wp_L_writeGuard
  refine q_writeGuard hR hW hu (fun c => ⟨rfl, ?_⟩) (fun c σ4 e => ?_)
  · exact m_writeGuard hG hW hu (fun _ => fin_i rfl (fun c => absurd c (by decide)) ⟨⟨a, hW, hR, hG⟩, hX⟩) (fun h => absurd h c)
  · subst e
    refine m_writeGuard (σ := st (SC σ (TG a u) 28) 34 0 _) hG hW hu (fun h => absurd c h) (fun _ => ?_)
    exact fin_i rfl (fun _ => rfl) ⟨⟨a, hW, hR, hG⟩, hX.1, hX.2.1, hX.2.2.1, hX.2.2.2.1, OU_tx (by omega) (fun j _ _ => TG_rng a u j) _ _, hX.2.2.2.2.2⟩
theorem o_39 {σ : Mem} (hI : Inv σ) (a1 a2 a3 a4 : Int32) : wplc_39 a1 a2 a3 a4 σ Inv := by
  have hI2 := hI
  obtain ⟨⟨a, hW, hR, hG⟩, hX⟩ := hI
  obtain ⟨x, rfl, hx⟩ := zI_ex a1
  obtain ⟨n, hn, l1, l2, hq⟩ := hX.2.2.2.2.1
  have hM : ∀ (σ' : Mem) (K : Int32 → Mem → Prop), σ' 25 15 = zI n → (¬ (0 ≤ x ∧ x < n) → K 32 (st σ' 25 7 1)) → ((0 ≤ x ∧ x < n) → ∀ q : Nat, q < 65536 → σ' 31 x.toNat = nI q → K (nI q) (st σ' 25 7 0)) → (∀ j : Nat, (j : Int) < n → ∃ q : Nat, q < 65536 ∧ σ' 31 j = nI q) → wp_X5_outputCharacter (zI x) σ' K := by
    intro σ' K e h1 h0 hq2
    unfold wp_X5_outputCharacter wpJ_X5_outputCharacter_20
    rw [e, zl_1, zl_0, zI_sub]
    refine m_in hx (by omega) (by omega) (fun c1 c2 => one_ne (m_f0 (zero_eq ?_))) (fun c => zero_eq (m_f1 (n := 1) (by decide) (one_ne (h1 (by omega)))))
    obtain ⟨q, q1, q2⟩ := hq2 x.toNat (by omega)
    rw [zI_nat (by omega) (by omega), show st σ' 25 7 0 31 x.toNat = σ' 31 x.toNat from rfl, q2]
    exact ⟨zI_in (by omega) (by omega) (by decide), (pk_charN q1).1, h0 (by omega) q q1 q2⟩
  unfold wplc_39 wp_L_outputCharacter wp_X4_outputCharacter
  rw [l1, zl_28]
  have hbad : ¬ (0 ≤ x ∧ x < n) → wp_X5_outputCharacter (zI x) σ (fun r4 σ3 => wp_X5_thrown σ3 (fun r6 σ5 => ((r6 = (1 : Int32) → ((¬ (1 : Int32) = (0 : Int32) → Inv σ5) ∧ ((1 : Int32) = (0 : Int32) → (((lg_cmp (σ5 34 0).toInt64 r4.toInt64) = (0 : Int32) → Inv σ5) ∧ (¬ (lg_cmp (σ5 34 0).toInt64 r4.toInt64) = (0 : Int32) → False))))) ∧ (¬ r6 = (1 : Int32) → False)))) := fun c =>
    hM σ _ l2 (fun _ => fin_i rfl (fun c => absurd c (by decide)) ⟨⟨a, hW, hR, hG⟩, hX⟩) (fun h => absurd h c) (fun j hj => by
      obtain ⟨q, q1, q2, q3⟩ := hq j hj
      exact ⟨q, q1, q3⟩)
  refine br_lt0 hx (fun c => ⟨rfl, hbad (by omega)⟩) (fun c => ?_)
  refine br_le (by omega) hx (fun c2 => ⟨rfl, hbad (by omega)⟩) (fun c2 => ?_)
  refine br_lt hx (by omega) (fun c3 => ?_) (fun c3 => absurd c3 (by omega))
  obtain ⟨q, q1, q2, q3⟩ := hq x.toNat (by omega)
  rw [zI_nat (by omega) (by omega), q2]
  refine ⟨zI_in (by omega) (by omega) (by decide), (pk_charN q1).1, fun σ4 e => ?_⟩
  subst e
  refine hM (st σ 34 0 (nI q)) _ l2 (fun h => absurd (⟨by omega, by omega⟩ : 0 ≤ x ∧ x < n) h) (fun _ p p1 p2 => ?_) (fun j hj => by
      obtain ⟨q, q1, q2, q3⟩ := hq j hj
      exact ⟨q, q1, q3⟩)
  have e9 : nI p = nI q := by rw [← p2]; exact q3
  rw [e9]
  exact fin_i rfl (fun _ => rfl) ⟨⟨a, hW, hR, hG⟩, hX⟩
theorem o_41 {σ : Mem} (hI : Inv σ) (a1 a2 a3 a4 : Int32) : wplc_41 a1 a2 a3 a4 σ Inv := by
  obtain ⟨⟨a, hW, hR, hG⟩, hX⟩ := hI
  obtain ⟨n, hn, l1, l2, hq⟩ := hX.2.2.2.2.2.1
  unfold wplc_41
  rw [pk_char a1]
  have hqq : a1.toBitVec.toNat % 65536 < 65536 := Nat.mod_lt _ (by decide)
  generalize a1.toBitVec.toNat % 65536 = q at *
  have hnar : vp_nar .char (nI q) = nI q := by
    unfold vp_nar
    rw [(pk_charN hqq).1]
  unfold wp_L_feed wp_X4_feed wp_X0_isFull wp_X0_append
  rw [l1, zl_60]
  refine br_lt (by omega) (by omega) (fun c => zero_eq ?_) (fun c => one_ne ⟨rfl, ?_⟩)
  · rw [l1]
    refine br_lt0 (by omega) (fun c => absurd c (by omega)) (fun _ => ?_)
    refine br_le (by omega) (by omega) (fun c => absurd c (by omega)) (fun _ => ⟨zI_in (by omega) (by omega) (by decide), fun σ3 e3 σ4 e4 σ5 e5 => ?_⟩)
    subst e3
    rw [zI_nat hn.1 (by omega), hnar, show st σ 20 n.toNat (nI q) 19 1 = σ 19 1 from rfl, l1, zl_1, zI_add] at e4
    subst e4
    rw [st_e] at e5
    subst e5
    unfold wp_X5_feed wpJ_X5_feed_15
    rw [show st (st (st σ 20 n.toNat (nI q)) 19 1 (zI (n + 1))) 34 0 (zI (n + 1)) 25 11 = σ 25 11 from rfl, l2, zl_60]
    refine br_ne (by omega) (by omega) (fun c => absurd c (by omega)) (fun _ => m_f0 (zero_eq ?_))
    rw [show st (st (st (st σ 20 n.toNat (nI q)) 19 1 (zI (n + 1))) 34 0 (zI (n + 1))) 25 7 0 25 11 = σ 25 11 from rfl, l2]
    refine ⟨zI_in (by omega) (by omega) (by decide), fun σ3 e3 σ4 e4 => ?_⟩
    subst e3
    rw [zI_nat hn.1 (by omega), show st (st (st (st (st σ 20 n.toNat (nI q)) 19 1 (zI (n + 1))) 34 0 (zI (n + 1))) 25 7 0) 30 n.toNat (nI q) 25 11 = σ 25 11 from rfl, l2, zl_1, zI_add] at e4
    subst e4
    rw [st_e]
    refine fin_i rfl (fun _ => rfl) ⟨⟨a, hW, hR, hG⟩, hX.1, hX.2.1, hX.2.2.1, hX.2.2.2.1, hX.2.2.2.2.1, ⟨n + 1, by omega, rfl, rfl, fun j hj => ?_⟩, hX.2.2.2.2.2.2⟩
    show ∃ q_1 : Nat, q_1 < 65536 ∧ upd (σ 20) n.toNat (nI q) j = nI q_1 ∧ upd (σ 30) n.toNat (nI q) j = nI q_1
    unfold upd
    by_cases c2 : j = n.toNat
    · rw [if_pos c2, if_pos c2]
      exact ⟨q, hqq, rfl, rfl⟩
    · rw [if_neg c2, if_neg c2]
      exact hq j (by omega)
  · unfold wp_X5_feed wpJ_X5_feed_15
    dsimp only
    rw [l2, zl_60]
    refine br_ne (by omega) (by omega) (fun c => m_f1 (n := 1) (by decide) (one_ne ?_)) (fun c => absurd c (by omega))
    exact fin_i rfl (fun c => absurd c (by decide)) ⟨⟨a, hW, hR, hG⟩, hX⟩
