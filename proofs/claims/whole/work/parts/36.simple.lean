/-! calls that only ask -/
section M1
variable {a : Nat → Int} {σ : Mem} {K : Int32 → Mem → Prop}
theorem m_isNone (hG : RG a (σ 26)) (hW : WF a) {u : Int} (hu : -2147483648 ≤ u ∧ u < 2147483648) (h : 0 ≤ u → u < a 1 → K 0 (st σ 25 7 0)) (h0 : ¬ (0 ≤ u ∧ u < a 1) → K 1 (st σ 25 7 1)) : wp_X5_isNone (zI u) σ K := by
  unfold wp_X5_isNone
  exact m_isGuard hG hW hu (fun c1 c2 => one_ne (m_f0 ⟨rfl, h c1 c2⟩)) (fun c => zero_eq (m_f1 (n := 1) (by decide) ⟨rfl, h0 c⟩))
theorem m_neededRank (hG : RG a (σ 26)) (hW : WF a) {k : Int} (hk : -2147483648 ≤ k ∧ k < 2147483648) (h : 0 ≤ k → k < a 0 → K (zI (a (4 + k.toNat))) (st σ 25 7 0)) (h0 : ¬ (0 ≤ k ∧ k < a 0) → K 0 (st σ 25 7 1)) : wp_X5_neededRank (zI k) σ K := by
  have hc := hW.c
  unfold wp_X5_neededRank wpJ_X5_neededRank_14
  refine m_isGate hG hW hk (fun c1 c2 => one_ne (m_f0 (zero_eq ?_))) (fun c => zero_eq (m_f1 (n := 1) (by decide) (one_ne (h0 c))))
  rw [st_c _ _ _ (show (26 : Nat) ≠ 25 by decide), zl_4, zI_add, zI_nat (by omega) (by omega), show (4 + k).toNat = 4 + k.toNat by omega, hG.2.2.2.2.1 _ (by omega)]
  exact ⟨zI_in (by omega) (by omega) (by decide), h c1 c2⟩
theorem m_rank (hG : RG a (σ 26)) (hW : WF a) {u : Int} (hu : -2147483648 ≤ u ∧ u < 2147483648) (h : 0 ≤ u → u < a 1 → K (zI (a (9 + u.toNat))) (st σ 25 7 0)) (h0 : ¬ (0 ≤ u ∧ u < a 1) → K 0 (st σ 25 7 1)) : wp_X5_rank (zI u) σ K := by
  have hc := hW.c
  unfold wp_X5_rank
  exact m_isNone hG hW hu (fun c1 c2 => zero_eq (m_ranked (σ := st σ 25 7 0) hG ⟨c1, by omega⟩ (h c1 c2))) (fun c => one_ne (h0 c))
theorem m_faints (hG : RG a (σ 26)) (hW : WF a) {u : Int} (hu : -2147483648 ≤ u ∧ u < 2147483648) (h : 0 ≤ u → u < a 1 → K (zI (a (19 + u.toNat))) (st σ 25 7 0)) (h0 : ¬ (0 ≤ u ∧ u < a 1) → K 0 (st σ 25 7 1)) : wp_X5_faints (zI u) σ K := by
  have hc := hW.c
  unfold wp_X5_faints
  refine m_isNone hG hW hu (fun c1 c2 => zero_eq ?_) (fun c => one_ne (h0 c))
  rw [st_c _ _ _ (show (26 : Nat) ≠ 25 by decide), zl_9, zl_2, zl_1, zI_mul, zI_add, zI_add, zI_nat (by omega) (by omega), show (9 + 2 * u + 1).toNat = 10 + 2 * u.toNat by omega, (hG.2.2.2.2.2.1 _ (by omega)).2.1]
  exact ⟨zI_in (by omega) (by omega) (by decide), h c1 c2⟩
theorem m_dutiesOf (hG : RG a (σ 26)) (hW : WF a) {u : Int} (hu : -2147483648 ≤ u ∧ u < 2147483648) (h : 0 ≤ u → u < a 1 → K (zI (dts a u)) (st σ 25 7 0)) (h0 : ¬ (0 ≤ u ∧ u < a 1) → K 0 (st σ 25 7 1)) : wp_X5_dutiesOf (zI u) σ K := by
  have hc := hW.c
  unfold wp_X5_dutiesOf
  exact m_isNone hG hW hu (fun c1 c2 => zero_eq (m_duties (σ := st σ 25 7 0) hG hW ⟨c1, by omega⟩ (h c1 c2))) (fun c => one_ne (h0 c))
theorem m_canAssign (hG : RG a (σ 26)) (hW : WF a) {k s u : Int} (hk : -2147483648 ≤ k ∧ k < 2147483648) (hs : -2147483648 ≤ s ∧ s < 2147483648) (hu : -2147483648 ≤ u ∧ u < 2147483648)
    (h0 : ¬ ((0 ≤ k ∧ k < a 0) ∧ (0 ≤ s ∧ s < 28) ∧ (0 ≤ u ∧ u < a 1)) → K 0 (st σ 25 7 1)) (h1 : (0 ≤ k ∧ k < a 0) → (0 ≤ s ∧ s < 28) → (0 ≤ u ∧ u < a 1) → s < a 3 → K 0 (st σ 25 7 0))
    (h2 : (0 ≤ k ∧ k < a 0) → (0 ≤ s ∧ s < 28) → (0 ≤ u ∧ u < a 1) → a 3 ≤ s → rsn a k s u ≠ 0 → K 0 (st (st σ 25 7 0) 25 16 (zI (dtl a k s u)))) (h3 : (0 ≤ k ∧ k < a 0) → (0 ≤ s ∧ s < 28) → (0 ≤ u ∧ u < a 1) → a 3 ≤ s → rsn a k s u = 0 → K 1 (st (st σ 25 7 0) 25 16 (zI (dtl a k s u)))) : wp_X5_canAssign (zI k) (zI s) (zI u) σ K := by
  have hc := hW.c
  unfold wp_X5_canAssign wpJ_X5_canAssign_22 wpJ_X5_canAssign_23
  refine m_arePlace hG hW hk hs (fun c1 c2 => one_ne ?_) (fun c => zero_eq (m_f1 (n := 1) (by decide) (one_ne' (h0 (fun h => c ⟨h.1, h.2.1⟩)))))
  refine m_isGuard hG hW hu (fun c3 c4 => one_ne (m_f0 (zero_eq' ?_))) (fun c => zero_eq (m_f1 (n := 1) (by decide) (one_ne' (h0 (fun h => c h.2.2)))))
  rw [st_c _ _ _ (show (26 : Nat) ≠ 25 by decide), hG.2.2.1]
  refine br_lt (by omega) (by omega) (fun c => h1 c1 c2 ⟨c3, c4⟩ c) (fun c => ?_)
  refine m_refuses (σ := st σ 25 7 0) hG hW c1 c2 ⟨c3, c4⟩ ?_
  have hr := rsn_rng a k s u
  exact br_n0 (by omega) (h3 c1 c2 ⟨c3, c4⟩ c) (h2 c1 c2 ⟨c3, c4⟩ c)
theorem m_guardAt (hG : RG a (σ 26)) (hW : WF a) {k s : Int} (hk : -2147483648 ≤ k ∧ k < 2147483648) (hs : -2147483648 ≤ s ∧ s < 2147483648)
    (h0 : ¬ ((0 ≤ k ∧ k < a 0) ∧ (0 ≤ s ∧ s < 28)) → K 0 (st σ 25 7 1)) (h1 : (0 ≤ k ∧ k < a 0) → (0 ≤ s ∧ s < 28) → du a k s = -1 → K 0 (st σ 25 7 2)) (h2 : (0 ≤ k ∧ k < a 0) → (0 ≤ s ∧ s < 28) → du a k s ≠ -1 → K (zI (du a k s)) (st σ 25 7 0)) : wp_X5_guardAt (zI k) (zI s) σ K := by
  have hc := hW.c
  unfold wp_X5_guardAt wpJ_X5_guardAt_28
  refine m_arePlace hG hW hk hs (fun c1 c2 => one_ne' ?_) (fun c => zero_eq' (m_f1 (n := 1) (by decide) (one_ne (h0 c))))
  have hd := hW.dq (k := k) (s := s) ⟨c1.1, by omega⟩ c2
  refine m_who hG ⟨c1.1, by omega⟩ c2 ?_
  refine br_ge0 (by omega) (fun c => m_f0 (zero_eq ?_)) (fun c => m_f1 (n := 2) (by decide) (one_ne (h1 c1 c2 (by omega))))
  exact m_who (σ := st σ 25 7 0) hG ⟨c1.1, by omega⟩ c2 (h2 c1 c2 (by omega))
theorem m_gateOf (hG : RG a (σ 26)) (hW : WF a) {u s : Int} (hu : -2147483648 ≤ u ∧ u < 2147483648) (hs : -2147483648 ≤ s ∧ s < 2147483648)
    (h0 : ¬ ((0 ≤ u ∧ u < a 1) ∧ (0 ≤ s ∧ s < 28)) → K 0 (st σ 25 7 1)) (h1 : (0 ≤ u ∧ u < a 1) → (0 ≤ s ∧ s < 28) → held a u s = -1 → K 0 (st σ 25 7 2)) (h2 : (0 ≤ u ∧ u < a 1) → (0 ≤ s ∧ s < 28) → held a u s ≠ -1 → K (zI (held a u s)) (st σ 25 7 0)) : wp_X5_gateOf (zI u) (zI s) σ K := by
  have hc := hW.c
  unfold wp_X5_gateOf wpJ_X5_gateOf_16 wpJ_X5_gateOf_34
  refine m_isGuard hG hW hu (fun c1 c2 => one_ne ?_) (fun c => zero_eq (m_f1 (n := 1) (by decide) (one_ne (h0 (fun h => c h.1)))))
  refine m_isSlot hs (fun c3 c4 => one_ne' ?_) (fun c => zero_eq' (m_f1 (n := 1) (by decide) (one_ne (h0 (fun h => c h.2)))))
  have hd := held_rng a u s
  refine m_where hG hW ⟨c1, by omega⟩ (by omega) ?_
  refine br_ge0 (by omega) (fun c => m_f0 (zero_eq ?_)) (fun c => m_f1 (n := 2) (by decide) (one_ne (h1 ⟨c1, c2⟩ ⟨c3, c4⟩ (by omega))))
  exact m_where (σ := st σ 25 7 0) hG hW ⟨c1, by omega⟩ (by omega) (h2 ⟨c1, c2⟩ ⟨c3, c4⟩ (by omega))
theorem m_openGates (hG : RG a (σ 26)) (hW : WF a) {s : Int} (hs : -2147483648 ≤ s ∧ s < 2147483648) (h : 0 ≤ s → s < 28 → K (zI (opn a s)) (st σ 25 7 0)) (h0 : ¬ (0 ≤ s ∧ s < 28) → K 0 (st σ 25 7 1)) : wp_X5_openGates (zI s) σ K := by
  unfold wp_X5_openGates wpJ_X5_openGates_13
  exact m_isSlot hs (fun c1 c2 => one_ne (m_f0 (zero_eq (m_open (σ := st σ 25 7 0) hG hW ⟨c1, c2⟩ (h c1 c2))))) (fun c => zero_eq (m_f1 (n := 1) (by decide) (one_ne (h0 c))))
theorem m_nextDuty (hG : RG a (σ 26)) (hW : WF a) {u : Int} (hu : -2147483648 ≤ u ∧ u < 2147483648) (h0 : ¬ (0 ≤ u ∧ u < a 1) → K 0 (st σ 25 7 1)) (h1 : (0 ≤ u ∧ u < a 1) → nxt a u = -1 → K 0 (st σ 25 7 2)) (h2 : (0 ≤ u ∧ u < a 1) → nxt a u ≠ -1 → K (zI (nxt a u)) (st σ 25 7 0)) : wp_X5_nextDuty (zI u) σ K := by
  have hc := hW.c
  unfold wp_X5_nextDuty wpJ_X5_nextDuty_26
  refine m_isGuard hG hW hu (fun c1 c2 => one_ne' ?_) (fun c => zero_eq' (m_f1 (n := 1) (by decide) (one_ne (h0 c))))
  have hd := nxt_rng hW u
  refine m_following hG hW ⟨c1, by omega⟩ ?_
  refine br_ge0 (by omega) (fun c => m_f0 (zero_eq ?_)) (fun c => m_f1 (n := 2) (by decide) (one_ne (h1 ⟨c1, c2⟩ (by omega))))
  exact m_following (σ := st σ 25 7 0) hG hW ⟨c1, by omega⟩ (h2 ⟨c1, c2⟩ (by omega))
theorem m_isOnLeave (hG : RG a (σ 26)) (hW : WF a) {u s : Int} (hu : -2147483648 ≤ u ∧ u < 2147483648) (hs : -2147483648 ≤ s ∧ s < 2147483648) (h0 : ¬ ((0 ≤ u ∧ u < a 1) ∧ (0 ≤ s ∧ s < 28)) → K 0 (st σ 25 7 1)) (h1 : (0 ≤ u ∧ u < a 1) → (0 ≤ s ∧ s < 28) → K (if off a u s = true then 1 else 0) (st σ 25 7 0)) : wp_X5_isOnLeave (zI u) (zI s) σ K := by
  have hc := hW.c
  unfold wp_X5_isOnLeave wpJ_X5_isOnLeave_20 wpJ_X5_isOnLeave_21
  refine m_isGuard hG hW hu (fun c1 c2 => one_ne ?_) (fun c => zero_eq (m_f1 (n := 1) (by decide) (one_ne' (h0 (fun h => c h.1)))))
  refine m_isSlot hs (fun c3 c4 => one_ne (m_f0 (zero_eq' ?_))) (fun c => zero_eq (m_f1 (n := 1) (by decide) (one_ne' (h0 (fun h => c h.2)))))
  have h := h1 ⟨c1, c2⟩ ⟨c3, c4⟩
  refine m_isOff (σ := st σ 25 7 0) hG ⟨c1, by omega⟩ ?_
  by_cases c : off a u s = true
  · rw [if_pos c] at h ⊢
    exact one_ne h
  · rw [if_neg c] at h ⊢
    exact zero_eq h
end M1
section O1
theorem o_2 {σ : Mem} (hI : Inv σ) (a1 a2 a3 a4 : Int32) : wplc_2 a1 a2 a3 a4 σ Inv := by
  obtain ⟨⟨a, hW, hR, hG⟩, hX⟩ := hI
  unfold wplc_2 wp_X4_gateCount wp_X5_gateCount
  refine q_gates hR (fun σ1 e => ?_)
  subst e
  exact fin_e hG.1.symm ⟨⟨a, hW, hR, hG⟩, hX⟩
theorem o_3 {σ : Mem} (hI : Inv σ) (a1 a2 a3 a4 : Int32) : wplc_3 a1 a2 a3 a4 σ Inv := by
  obtain ⟨⟨a, hW, hR, hG⟩, hX⟩ := hI
  unfold wplc_3 wp_X4_guardCount wp_X5_guardCount
  refine q_guards hR (fun σ1 e => ?_)
  subst e
  exact fin_e hG.2.1.symm ⟨⟨a, hW, hR, hG⟩, hX⟩
theorem o_4 {σ : Mem} (hI : Inv σ) (a1 a2 a3 a4 : Int32) : wplc_4 a1 a2 a3 a4 σ Inv := by
  obtain ⟨⟨a, hW, hR, hG⟩, hX⟩ := hI
  obtain ⟨k, rfl, hk⟩ := zI_ex a1
  unfold wplc_4 wp_L_neededRank wp_X4_neededRank
  refine q_isGate hR hW hk.1 hk.2 (fun c1 c2 => one_ne' (q_rankNeededAt hR hW c1 c2 (fun σ4 e => ?_))) (fun c => zero_eq' ⟨rfl, ?_⟩)
  · subst e
    exact m_neededRank (σ := st σ 34 0 _) hG hW hk (fun _ _ => fin_i rfl (fun _ => rfl) ⟨⟨a, hW, hR, hG⟩, hX⟩) (fun c => absurd ⟨c1, c2⟩ c)
  · exact m_neededRank hG hW hk (fun c1 c2 => absurd ⟨c1, c2⟩ c) (fun _ => fin_i rfl (fun c => absurd c (by decide)) ⟨⟨a, hW, hR, hG⟩, hX⟩)
theorem o_5 {σ : Mem} (hI : Inv σ) (a1 a2 a3 a4 : Int32) : wplc_5 a1 a2 a3 a4 σ Inv := by
  obtain ⟨⟨a, hW, hR, hG⟩, hX⟩ := hI
  obtain ⟨k, rfl, hk⟩ := zI_ex a1
  unfold wplc_5 wp_L_rank wp_X4_rank wp_X4_throwUnlessGuard
  refine q_isGuard hR hW hk.1 hk.2 (fun c1 c2 => one_ne' (q_rankOf hR hW c1 c2 (fun σ4 e => ?_))) (fun c => zero_eq' ⟨rfl, ?_⟩)
  · subst e
    exact m_rank (σ := st σ 34 0 _) hG hW hk (fun _ _ => fin_i rfl (fun _ => rfl) ⟨⟨a, hW, hR, hG⟩, hX⟩) (fun c => absurd ⟨c1, c2⟩ c)
  · exact m_rank hG hW hk (fun c1 c2 => absurd ⟨c1, c2⟩ c) (fun _ => fin_i rfl (fun c => absurd c (by decide)) ⟨⟨a, hW, hR, hG⟩, hX⟩)
theorem o_6 {σ : Mem} (hI : Inv σ) (a1 a2 a3 a4 : Int32) : wplc_6 a1 a2 a3 a4 σ Inv := by
  obtain ⟨⟨a, hW, hR, hG⟩, hX⟩ := hI
  obtain ⟨k, rfl, hk⟩ := zI_ex a1
  unfold wplc_6 wp_L_faints wp_X4_faints wp_X4_throwUnlessGuard
  refine q_isGuard hR hW hk.1 hk.2 (fun c1 c2 => one_ne' (q_faintsOf hR hW c1 c2 (fun σ4 e => ?_))) (fun c => zero_eq' ⟨rfl, ?_⟩)
  · subst e
    exact m_faints (σ := st σ 34 0 _) hG hW hk (fun _ _ => fin_i rfl (fun _ => rfl) ⟨⟨a, hW, hR, hG⟩, hX⟩) (fun c => absurd ⟨c1, c2⟩ c)
  · exact m_faints hG hW hk (fun c1 c2 => absurd ⟨c1, c2⟩ c) (fun _ => fin_i rfl (fun c => absurd c (by decide)) ⟨⟨a, hW, hR, hG⟩, hX⟩)
theorem o_8 {σ : Mem} (hI : Inv σ) (a1 a2 a3 a4 : Int32) : wplc_8 a1 a2 a3 a4 σ Inv := by
  obtain ⟨⟨a, hW, hR, hG⟩, hX⟩ := hI
  have hc := hW.c
  obtain ⟨k, rfl, hk⟩ := zI_ex a1
  obtain ⟨s, rfl, hs⟩ := zI_ex a2
  obtain ⟨u, rfl, hu⟩ := zI_ex a3
  unfold wplc_8 wp_L_canAssign wp_X4_canAssign
  have hbad : ¬ ((0 ≤ k ∧ k < a 0) ∧ (0 ≤ s ∧ s < 28) ∧ (0 ≤ u ∧ u < a 1)) → wp_X5_canAssign (zI k) (zI s) (zI u) σ (fun r4 σ3 => wp_X5_thrown σ3 (fun r6 σ5 => ((r6 = (1 : Int32) → ((¬ (1 : Int32) = (0 : Int32) → Inv σ5) ∧ ((1 : Int32) = (0 : Int32) → ((r4 = (0 : Int32) → (((lg_cmp (σ5 34 0).toInt64 (0 : Int32).toInt64) = (0 : Int32) → Inv σ5) ∧ (¬ (lg_cmp (σ5 34 0).toInt64 (0 : Int32).toInt64) = (0 : Int32) → False))) ∧ (¬ r4 = (0 : Int32) → (((lg_cmp (σ5 34 0).toInt64 (1 : Int32).toInt64) = (0 : Int32) → Inv σ5) ∧ (¬ (lg_cmp (σ5 34 0).toInt64 (1 : Int32).toInt64) = (0 : Int32) → False))))))) ∧ (¬ r6 = (1 : Int32) → False)))) := fun hn =>
    m_canAssign hG hW hk hs hu (fun _ => fin_b rfl (fun c => absurd c (by decide)) ⟨⟨a, hW, hR, hG⟩, hX⟩) (fun c1 c2 c3 _ => absurd ⟨c1, c2, c3⟩ hn) (fun c1 c2 c3 _ _ => absurd ⟨c1, c2, c3⟩ hn) (fun c1 c2 c3 _ _ => absurd ⟨c1, c2, c3⟩ hn)
  refine q_isGate hR hW hk.1 hk.2 (fun c1 c2 => one_ne ?_) (fun c => zero_eq ⟨rfl, hbad (fun h => c h.1)⟩)
  refine q_isSlot hs.1 hs.2 (fun c3 c4 => one_ne ?_) (fun c => zero_eq ⟨rfl, hbad (fun h => c h.2.1)⟩)
  refine q_isGuard hR hW hu.1 hu.2 (fun c5 c6 => one_ne' ?_) (fun c => zero_eq' ⟨rfl, hbad (fun h => c h.2.2)⟩)
  refine q_hasPassed hR hW hs.1 hs.2 (fun c => one_ne' ?_) (fun c => zero_eq' ?_)
  · refine zero_eq (fun σ5 e => ?_)
    subst e
    exact m_canAssign (σ := st σ 34 0 _) hG hW hk hs hu (fun h => absurd ⟨⟨c1, c2⟩, ⟨c3, c4⟩, ⟨c5, c6⟩⟩ h) (fun _ _ _ _ => fin_b rfl (fun _ => ⟨rfl, Or.inl rfl⟩) ⟨⟨a, hW, hR, hG⟩, hX⟩) (fun _ _ _ h _ => absurd h (by omega)) (fun _ _ _ h _ => absurd h (by omega))
  · have hr := rsn_rng a k s u
    refine q_reasonAgainst hR hW ⟨c1, c2⟩ ⟨c3, c4⟩ ⟨c5, c6⟩ ?_
    refine br_n0 (by omega) (fun c9 => one_ne (fun σ5 e => ?_)) (fun c9 => zero_eq (fun σ5 e => ?_))
    · subst e
      exact m_canAssign (σ := st σ 34 0 _) hG hW hk hs hu (fun h => absurd ⟨⟨c1, c2⟩, ⟨c3, c4⟩, ⟨c5, c6⟩⟩ h) (fun _ _ _ h => absurd h (by omega)) (fun _ _ _ _ h => absurd c9 h) (fun _ _ _ _ _ => fin_b rfl (fun _ => ⟨rfl, Or.inr rfl⟩) ⟨⟨a, hW, hR, hG⟩, hX⟩)
    · subst e
      exact m_canAssign (σ := st σ 34 0 _) hG hW hk hs hu (fun h => absurd ⟨⟨c1, c2⟩, ⟨c3, c4⟩, ⟨c5, c6⟩⟩ h) (fun _ _ _ h => absurd h (by omega)) (fun _ _ _ _ _ => fin_b rfl (fun _ => ⟨rfl, Or.inl rfl⟩) ⟨⟨a, hW, hR, hG⟩, hX⟩) (fun _ _ _ _ h => absurd h c9)
theorem o_12 {σ : Mem} (hI : Inv σ) (a1 a2 a3 a4 : Int32) : wplc_12 a1 a2 a3 a4 σ Inv := by
  obtain ⟨⟨a, hW, hR, hG⟩, hX⟩ := hI
  have hc := hW.c
  obtain ⟨k, rfl, hk⟩ := zI_ex a1
  obtain ⟨s, rfl, hs⟩ := zI_ex a2
  unfold wplc_12 wp_L_guardAt wp_X4_guardAt
  refine q_isGate hR hW hk.1 hk.2 (fun c1 c2 => one_ne ?_) (fun c => zero_eq (Or.inl ⟨rfl, ?_⟩))
  · refine q_isSlot hs.1 hs.2 (fun c3 c4 => one_ne' ?_) (fun c => zero_eq' (Or.inl ⟨rfl, ?_⟩))
    · have hd := hW.dq (k := k) (s := s) ⟨c1, by omega⟩ ⟨c3, c4⟩
      refine q_guardOn hR hW c1 c2 c3 c4 ?_
      refine br_nm1 (by omega) (fun c => Or.inr ⟨rfl, ?_⟩) (fun c σ4 e => ?_)
      · exact m_guardAt hG hW hk hs (fun h => absurd ⟨⟨c1, c2⟩, ⟨c3, c4⟩⟩ h) (fun _ _ _ => fin_i rfl (fun c => absurd c (by decide)) ⟨⟨a, hW, hR, hG⟩, hX⟩) (fun _ _ h => absurd c h)
      · subst e
        exact m_guardAt (σ := st σ 34 0 _) hG hW hk hs (fun h => absurd ⟨⟨c1, c2⟩, ⟨c3, c4⟩⟩ h) (fun _ _ h => absurd h c) (fun _ _ _ => fin_i rfl (fun _ => rfl) ⟨⟨a, hW, hR, hG⟩, hX⟩)
    · exact m_guardAt hG hW hk hs (fun _ => fin_i rfl (fun c => absurd c (by decide)) ⟨⟨a, hW, hR, hG⟩, hX⟩) (fun h1 h2 _ => absurd h2 c) (fun h1 h2 _ => absurd h2 c)
  · exact m_guardAt hG hW hk hs (fun _ => fin_i rfl (fun c => absurd c (by decide)) ⟨⟨a, hW, hR, hG⟩, hX⟩) (fun h1 h2 _ => absurd h1 c) (fun h1 h2 _ => absurd h1 c)
theorem o_13 {σ : Mem} (hI : Inv σ) (a1 a2 a3 a4 : Int32) : wplc_13 a1 a2 a3 a4 σ Inv := by
  obtain ⟨⟨a, hW, hR, hG⟩, hX⟩ := hI
  have hc := hW.c
  obtain ⟨u, rfl, hu⟩ := zI_ex a1
  obtain ⟨s, rfl, hs⟩ := zI_ex a2
  unfold wplc_13 wp_L_gateOf wp_X4_gateOf wp_X4_throwUnlessGuardAndSlot wp_X4_throwUnlessGuard wp_X4_throwUnlessSlot
  refine q_isGuard hR hW hu.1 hu.2 (fun c1 c2 => one_ne' ?_) (fun c => zero_eq' (Or.inl ⟨rfl, ?_⟩))
  · refine q_isSlot hs.1 hs.2 (fun c3 c4 => one_ne' ?_) (fun c => zero_eq' (Or.inl ⟨rfl, ?_⟩))
    · have hd := held_rng a u s
      refine q_gateHeld hR hW (by omega) (by omega) ?_
      refine br_nm1 (by omega) (fun c => Or.inr ⟨rfl, ?_⟩) (fun c σ4 e => ?_)
      · exact m_gateOf hG hW hu hs (fun h => absurd ⟨⟨c1, c2⟩, ⟨c3, c4⟩⟩ h) (fun _ _ _ => fin_i rfl (fun c => absurd c (by decide)) ⟨⟨a, hW, hR, hG⟩, hX⟩) (fun _ _ h => absurd c h)
      · subst e
        exact m_gateOf (σ := st σ 34 0 _) hG hW hu hs (fun h => absurd ⟨⟨c1, c2⟩, ⟨c3, c4⟩⟩ h) (fun _ _ h => absurd h c) (fun _ _ _ => fin_i rfl (fun _ => rfl) ⟨⟨a, hW, hR, hG⟩, hX⟩)
    · exact m_gateOf hG hW hu hs (fun _ => fin_i rfl (fun c => absurd c (by decide)) ⟨⟨a, hW, hR, hG⟩, hX⟩) (fun h1 h2 _ => absurd h2 c) (fun h1 h2 _ => absurd h2 c)
  · exact m_gateOf hG hW hu hs (fun _ => fin_i rfl (fun c => absurd c (by decide)) ⟨⟨a, hW, hR, hG⟩, hX⟩) (fun h1 h2 _ => absurd h1 c) (fun h1 h2 _ => absurd h1 c)
theorem o_14 {σ : Mem} (hI : Inv σ) (a1 a2 a3 a4 : Int32) : wplc_14 a1 a2 a3 a4 σ Inv := by
  obtain ⟨⟨a, hW, hR, hG⟩, hX⟩ := hI
  have hc := hW.c
  obtain ⟨k, rfl, hk⟩ := zI_ex a1
  unfold wplc_14 wp_L_dutiesOf wp_X4_dutiesOf wp_X4_throwUnlessGuard
  refine q_isGuard hR hW hk.1 hk.2 (fun c1 c2 => one_ne' (q_dutyTotal hR hW (by omega) (fun σ4 e => ?_))) (fun c => zero_eq' ⟨rfl, ?_⟩)
  · subst e
    exact m_dutiesOf (σ := st σ 34 0 _) hG hW hk (fun _ _ => fin_i rfl (fun _ => rfl) ⟨⟨a, hW, hR, hG⟩, hX⟩) (fun c => absurd ⟨c1, c2⟩ c)
  · exact m_dutiesOf hG hW hk (fun c1 c2 => absurd ⟨c1, c2⟩ c) (fun _ => fin_i rfl (fun c => absurd c (by decide)) ⟨⟨a, hW, hR, hG⟩, hX⟩)
theorem o_15 {σ : Mem} (hI : Inv σ) (a1 a2 a3 a4 : Int32) : wplc_15 a1 a2 a3 a4 σ Inv := by
  obtain ⟨⟨a, hW, hR, hG⟩, hX⟩ := hI
  unfold wplc_15 wp_X4_dutyCount wp_X5_dutyCount
  rw [zl_0]
  refine q_allDuties hR hW (by decide) (fun σ1 e => ?_)
  subst e
  exact m_allDuties (σ := st σ 25 7 _) hG hW (fin_e (by rw [alM_alD hW]) ⟨⟨a, hW, hR, hG⟩, hX⟩)
theorem o_16 {σ : Mem} (hI : Inv σ) (a1 a2 a3 a4 : Int32) : wplc_16 a1 a2 a3 a4 σ Inv := by
  obtain ⟨⟨a, hW, hR, hG⟩, hX⟩ := hI
  obtain ⟨k, rfl, hk⟩ := zI_ex a1
  unfold wplc_16 wp_L_openGates wp_X4_openGates wp_X4_throwUnlessSlot
  refine q_isSlot hk.1 hk.2 (fun c1 c2 => one_ne' (q_openGatesIn hR hW ⟨c1, c2⟩ (fun σ4 e => ?_))) (fun c => zero_eq' ⟨rfl, ?_⟩)
  · subst e
    exact m_openGates (σ := st σ 34 0 _) hG hW hk (fun _ _ => fin_i rfl (fun _ => rfl) ⟨⟨a, hW, hR, hG⟩, hX⟩) (fun c => absurd ⟨c1, c2⟩ c)
  · exact m_openGates hG hW hk (fun c1 c2 => absurd ⟨c1, c2⟩ c) (fun _ => fin_i rfl (fun c => absurd c (by decide)) ⟨⟨a, hW, hR, hG⟩, hX⟩)
theorem o_17 {σ : Mem} (hI : Inv σ) (a1 a2 a3 a4 : Int32) : wplc_17 a1 a2 a3 a4 σ Inv := by
  obtain ⟨⟨a, hW, hR, hG⟩, hX⟩ := hI
  unfold wplc_17 wp_X5_openPlaces
  exact q_openPlaces hR hW (m_openFromNow hG hW (fin_e rfl ⟨⟨a, hW, hR, hG⟩, hX⟩))
theorem o_18 {σ : Mem} (hI : Inv σ) (a1 a2 a3 a4 : Int32) : wplc_18 a1 a2 a3 a4 σ Inv := by
  obtain ⟨⟨a, hW, hR, hG⟩, hX⟩ := hI
  unfold wplc_18 wp_X5_openPlacesBySlots
  exact q_openPlacesBySlots hR hW (m_openFromNow hG hW (fin_e rfl ⟨⟨a, hW, hR, hG⟩, hX⟩))
theorem o_21 {σ : Mem} (hI : Inv σ) (a1 a2 a3 a4 : Int32) : wplc_21 a1 a2 a3 a4 σ Inv := by
  obtain ⟨⟨a, hW, hR, hG⟩, hX⟩ := hI
  have hc := hW.c
  obtain ⟨u, rfl, hu⟩ := zI_ex a1
  unfold wplc_21 wp_L_nextDuty wp_X4_nextDuty wp_X4_throwUnlessGuard
  refine q_isGuard hR hW hu.1 hu.2 (fun c1 c2 => one_ne' ?_) (fun c => zero_eq' (Or.inl ⟨rfl, ?_⟩))
  · have hd := nxt_rng hW u
    refine q_nextSlotOf hR hW ⟨c1, by omega⟩ ?_
    refine br_nm1 (by omega) (fun c => Or.inr ⟨rfl, ?_⟩) (fun c σ4 e => ?_)
    · exact m_nextDuty hG hW hu (fun h => absurd ⟨c1, c2⟩ h) (fun _ _ => fin_i rfl (fun c => absurd c (by decide)) ⟨⟨a, hW, hR, hG⟩, hX⟩) (fun _ h => absurd c h)
    · subst e
      exact m_nextDuty (σ := st σ 34 0 _) hG hW hu (fun h => absurd ⟨c1, c2⟩ h) (fun _ h => absurd h c) (fun _ _ => fin_i rfl (fun _ => rfl) ⟨⟨a, hW, hR, hG⟩, hX⟩)
  · exact m_nextDuty hG hW hu (fun _ => fin_i rfl (fun c => absurd c (by decide)) ⟨⟨a, hW, hR, hG⟩, hX⟩) (fun h1 _ => absurd h1 c) (fun h1 _ => absurd h1 c)
theorem o_22 {σ : Mem} (hI : Inv σ) (a1 a2 a3 a4 : Int32) : wplc_22 a1 a2 a3 a4 σ Inv := by
  obtain ⟨⟨a, hW, hR, hG⟩, hX⟩ := hI
  have hc := hW.c
  obtain ⟨k, rfl, hk⟩ := zI_ex a1
  unfold wplc_22 wp_L_longestRest wp_X4_longestRest wp_X4_throwUnlessGuard
  refine q_isGuard hR hW hk.1 hk.2 (fun c1 c2 => one_ne' (q_longestGap hR hW ⟨c1, by omega⟩ (fun σ4 e => ?_))) (fun c => zero_eq' ⟨rfl, ?_⟩)
  · subst e
    exact m_longestRest (σ := st σ 34 0 _) hG hW hk (fun _ _ => fin_i rfl (fun _ => rfl) ⟨⟨a, hW, hR, hG⟩, hX⟩) (fun c => absurd ⟨c1, c2⟩ c)
  · exact m_longestRest hG hW hk (fun c1 c2 => absurd ⟨c1, c2⟩ c) (fun _ => fin_i rfl (fun c => absurd c (by decide)) ⟨⟨a, hW, hR, hG⟩, hX⟩)
theorem o_26 {σ : Mem} (hI : Inv σ) (a1 a2 a3 a4 : Int32) : wplc_26 a1 a2 a3 a4 σ Inv := by
  obtain ⟨⟨a, hW, hR, hG⟩, hX⟩ := hI
  have hc := hW.c
  obtain ⟨u, rfl, hu⟩ := zI_ex a1
  obtain ⟨s, rfl, hs⟩ := zI_ex a2
  unfold wplc_26 wp_L_isOnLeave wp_X4_isOnLeave wp_X4_throwUnlessGuardAndSlot wp_X4_throwUnlessGuard wp_X4_throwUnlessSlot
  refine q_isGuard hR hW hu.1 hu.2 (fun c1 c2 => one_ne' ?_) (fun c => zero_eq' ⟨rfl, ?_⟩)
  · refine q_isSlot hs.1 hs.2 (fun c3 c4 => one_ne' ?_) (fun c => zero_eq' ⟨rfl, ?_⟩)
    · refine q_hasLeave hR hW ⟨c1, c2⟩ ?_
      by_cases c : off a u s = true
      · rw [if_pos c]
        refine ⟨rfl, one_ne (fun σ5 e => ?_)⟩
        subst e
        exact m_isOnLeave (σ := st σ 34 0 _) hG hW hu hs (fun h => absurd ⟨⟨c1, c2⟩, ⟨c3, c4⟩⟩ h) (fun _ _ => by rw [if_pos c]; exact fin_b rfl (fun _ => ⟨rfl, Or.inr rfl⟩) ⟨⟨a, hW, hR, hG⟩, hX⟩)
      · rw [if_neg c]
        refine ⟨rfl, zero_eq (fun σ5 e => ?_)⟩
        subst e
        exact m_isOnLeave (σ := st σ 34 0 _) hG hW hu hs (fun h => absurd ⟨⟨c1, c2⟩, ⟨c3, c4⟩⟩ h) (fun _ _ => by rw [if_neg c]; exact fin_b rfl (fun _ => ⟨rfl, Or.inl rfl⟩) ⟨⟨a, hW, hR, hG⟩, hX⟩)
    · exact m_isOnLeave hG hW hu hs (fun _ => fin_b rfl (fun c => absurd c (by decide)) ⟨⟨a, hW, hR, hG⟩, hX⟩) (fun h1 h2 => absurd h2 c)
  · exact m_isOnLeave hG hW hu hs (fun _ => fin_b rfl (fun c => absurd c (by decide)) ⟨⟨a, hW, hR, hG⟩, hX⟩) (fun h1 h2 => absurd h1 c)
theorem o_30 {σ : Mem} (hI : Inv σ) (a1 a2 a3 a4 : Int32) : wplc_30 a1 a2 a3 a4 σ Inv := by
  obtain ⟨⟨a, hW, hR, hG⟩, hX⟩ := hI
  unfold wplc_30 wp_X4_rations wp_X5_rations
  refine q_rationsLeft hR (fun σ1 e => ?_)
  subst e
  exact fin_e hG.2.2.2.1.symm ⟨⟨a, hW, hR, hG⟩, hX⟩
theorem o_31 {σ : Mem} (hI : Inv σ) (a1 a2 a3 a4 : Int32) : wplc_31 a1 a2 a3 a4 σ Inv := by
  obtain ⟨⟨a, hW, hR, hG⟩, hX⟩ := hI
  unfold wplc_31 wp_X4_currentSlot wp_X5_currentSlot
  refine q_now hR (fun σ1 e => ?_)
  subst e
  exact fin_e hG.2.2.1.symm ⟨⟨a, hW, hR, hG⟩, hX⟩
theorem o_32 {σ : Mem} (hI : Inv σ) (a1 a2 a3 a4 : Int32) : wplc_32 a1 a2 a3 a4 σ Inv := by
  obtain ⟨⟨a, hW, hR, hG⟩, hX⟩ := hI
  have hc := hW.c
  have hr := alD_rng hW (f := a 3) (by omega)
  unfold wplc_32 wp_X4_missingRations
  refine q_now hR (q_allDuties hR hW (by omega) (q_rationsLeft hR ?_))
  refine m_missing hG hW (fin_e ?_ ⟨⟨a, hW, hR, hG⟩, hX⟩)
  rw [zI_sub, zl_0, zI_max (x := 0) (by omega) (by omega)]
  congr 1
  by_cases c : alD a (a 3) ≤ a 2
  · rw [if_pos c, if_neg (by omega)]
  · rw [if_neg c, if_pos (by omega)]
theorem o_33 {σ : Mem} (hI : Inv σ) (a1 a2 a3 a4 : Int32) : wplc_33 a1 a2 a3 a4 σ Inv := by
  obtain ⟨⟨a, hW, hR, hG⟩, hX⟩ := hI
  have hw := hX.2.2.2.1
  unfold wplc_33 wp_L_refusalReason wp_X4_refusalReason wp_X4_throwUnlessRefused wp_X5_refusalReason wpJ_X5_refusalReason_13
  refine ⟨fun c σ4 e => ?_, fun c => ⟨rfl, ?_⟩⟩
  · subst e
    refine ⟨fun c2 => m_f0 (zero_eq (fin_i rfl (fun _ => hw.1) ⟨⟨a, hW, hR, hG⟩, hX⟩)), fun c2 => absurd (hw.1.trans c2) c⟩
  · refine ⟨fun c2 => absurd (hw.1.symm.trans c) c2, fun c2 => m_f1 (n := 1) (by decide) (one_ne (fin_i rfl (fun c => absurd c (by decide)) ⟨⟨a, hW, hR, hG⟩, hX⟩))⟩
theorem o_34 {σ : Mem} (hI : Inv σ) (a1 a2 a3 a4 : Int32) : wplc_34 a1 a2 a3 a4 σ Inv := by
  obtain ⟨⟨a, hW, hR, hG⟩, hX⟩ := hI
  have hw := hX.2.2.2.1
  unfold wplc_34 wp_L_refusalDetail wp_X4_refusalDetail wp_X4_throwUnlessRefused wp_X5_refusalDetail wpJ_X5_refusalDetail_13
  refine ⟨fun c σ4 e => ?_, fun c => ⟨rfl, ?_⟩⟩
  · subst e
    refine ⟨fun c2 => m_f0 (zero_eq (fin_i rfl (fun _ => hw.2) ⟨⟨a, hW, hR, hG⟩, hX⟩)), fun c2 => absurd (hw.1.trans c2) c⟩
  · refine ⟨fun c2 => absurd (hw.1.symm.trans c) c2, fun c2 => m_f1 (n := 1) (by decide) (one_ne (fin_i rfl (fun c => absurd c (by decide)) ⟨⟨a, hW, hR, hG⟩, hX⟩))⟩
theorem o_43 {σ : Mem} (hI : Inv σ) (a1 a2 a3 a4 : Int32) : wplc_43 a1 a2 a3 a4 σ Inv := by
  obtain ⟨⟨a, hW, hR, hG⟩, hX⟩ := hI
  obtain ⟨e, he, h1, h2⟩ := hX.2.2.2.2.2.2.1
  unfold wplc_43 wp_L_errorPosition wp_X4_errorPosition wp_X5_errorPosition wpJ_X5_errorPosition_13
  rw [h1]
  refine br_nm1 (by omega) (fun c => ⟨rfl, ?_⟩) (fun c σ4 e4 => ?_)
  · dsimp only
    rw [h2]
    exact br_ge0 (by omega) (fun c2 => absurd c2 (by omega)) (fun c2 => m_f1 (n := 1) (by decide) (one_ne (fin_i rfl (fun c => absurd c (by decide)) ⟨⟨a, hW, hR, hG⟩, hX⟩)))
  · subst e4
    rw [st_c _ _ _ (show (25 : Nat) ≠ 34 by decide), h2]
    exact br_ge0 (by omega) (fun c2 => m_f0 (zero_eq (fin_i rfl (fun _ => h2.symm) ⟨⟨a, hW, hR, hG⟩, hX⟩))) (fun c2 => absurd c2 (by omega))
theorem o_44 {σ : Mem} (hI : Inv σ) (a1 a2 a3 a4 : Int32) : wplc_44 a1 a2 a3 a4 σ Inv := by
  obtain ⟨⟨a, hW, hR, hG⟩, hX⟩ := hI
  obtain ⟨e, he, h1, h2⟩ := hX.2.2.2.2.2.2.2.1
  unfold wplc_44 wp_L_failedCommand wp_X4_failedCommand wp_X5_failedCommand wpJ_X5_failedCommand_13
  rw [h1]
  refine br_nm1 (by omega) (fun c => ⟨rfl, ?_⟩) (fun c σ4 e4 => ?_)
  · dsimp only
    rw [h2]
    exact br_ge0 (by omega) (fun c2 => absurd c2 (by omega)) (fun c2 => m_f1 (n := 1) (by decide) (one_ne (fin_i rfl (fun c => absurd c (by decide)) ⟨⟨a, hW, hR, hG⟩, hX⟩)))
  · subst e4
    rw [st_c _ _ _ (show (25 : Nat) ≠ 34 by decide), h2]
    exact br_ge0 (by omega) (fun c2 => m_f0 (zero_eq (fin_i rfl (fun _ => h2.symm) ⟨⟨a, hW, hR, hG⟩, hX⟩))) (fun c2 => absurd c2 (by omega))
theorem o_46 {σ : Mem} (hI : Inv σ) (a1 a2 a3 a4 : Int32) : wplc_46 a1 a2 a3 a4 σ Inv := by
  obtain ⟨⟨a, hW, hR, hG⟩, hX⟩ := hI
  obtain ⟨n, m, h1, h2, h3, h4, h5, h6⟩ := id hX.1
  unfold wplc_46 wp_X4_undoCount wp_X1_size wp_X5_undoCount
  intro σ1 e
  subst e
  exact fin_e (h4.trans h5.symm) ⟨⟨a, hW, hR, hG⟩, hX⟩
end O1
