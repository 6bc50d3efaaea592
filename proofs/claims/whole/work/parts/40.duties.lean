/-! duties written -/
section D0
variable {a : Nat → Int} {σ : Mem} {K : Int32 → Mem → Prop}
theorem dp_lo {k s : Int} (hk : 0 ≤ k) (hs : 0 ≤ s) : 39 ≤ dp k s := by unfold dp; omega
theorem RC.sd {c : Nat → Int32} (h : RC a c) {k s : Int} (hk : 0 ≤ k) (hs : 0 ≤ s) (u : Int) : RC (sD a k s u) (upd c (dp k s) (zI (u + 1))) := RC_d h (dp_lo hk hs) u
theorem RG.sd {c : Nat → Int32} (h : RG a c) {k s : Int} (hk : 0 ≤ k) (hs : 0 ≤ s) (u : Int) : RG (sD a k s u) (upd c (dp k s) (zI u)) := RG_duty h (dp_lo hk hs) u
theorem sD_0 {k s : Int} (hk : 0 ≤ k) (hs : 0 ≤ s) (u : Int) {j : Nat} (hj : j < 39) : sD a k s u j = a j := iu_j _ _ (by have := dp_lo hk hs; omega)
theorem du_sD {k s k2 s2 : Int} (hk : 0 ≤ k) (hs : 0 ≤ s ∧ s < 28) (hk2 : 0 ≤ k2) (hs2 : 0 ≤ s2 ∧ s2 < 28) (u : Int) : du (sD a k s u) k2 s2 = if k2 = k ∧ s2 = s then u else du a k2 s2 := by
  unfold du sD iu dp
  by_cases c : k2 = k ∧ s2 = s
  · rw [if_pos c, if_pos (by omega)]
  · rw [if_neg c, if_neg (by omega)]
theorem q_setDuty {K : Mem → Prop} (hR : RC a (σ 2)) (hW : WF a) {k s u : Int} (hk : 0 ≤ k ∧ k < a 0) (hs : 0 ≤ s ∧ s < 28) (h : K (st σ 2 (dp k s) (zI (u + 1)))) : wp_X2_setDuty (zI k) (zI s) (zI u) σ K := by
  have hc := hW.c
  unfold wp_X2_setDuty
  refine q_isGate hR hW (by omega) (by omega) (fun _ _ => one_ne ?_) (fun c => absurd hk c)
  refine q_isSlot (by omega) (by omega) (fun _ _ => one_ne ?_) (fun c => absurd hs c)
  rw [zl_39, zl_28, zl_1, zI_mul, zI_add, zI_add, zI_nat (by omega) (by omega), zI_add]
  refine ⟨zI_in (by omega) (by omega) (by decide), fun σ7 e => ?_⟩
  subst e
  exact h
theorem q_isRefused (hR : RC a (σ 2)) (hW : WF a) {k s u : Int} (hk : 0 ≤ k ∧ k < a 0) (hs : 0 ≤ s ∧ s < 28) (hu : 0 ≤ u ∧ u < a 1) (h0 : rsn a k s u = 0 → K 0 σ) (h1 : rsn a k s u ≠ 0 → K 1 (st (st σ 0 8 (zI (rsn a k s u))) 0 9 (zI (dtl a k s u)))) : wp_X4_isRefused (zI k) (zI s) (zI u) σ K := by
  have hr := rsn_rng a k s u
  unfold wp_X4_isRefused wp_X4_keepRefusal
  refine q_reasonAgainst hR hW hk hs hu ?_
  refine br_n0 (by omega) h0 (fun c => q_detailOf hR hW hk hs hu c (fun σ1 e1 σ2 e2 => ?_))
  subst e2; subst e1
  exact h1 c
theorem q_problemOfDuty (hR : RC a (σ 2)) (hW : WF a) {k s u : Int} (hk : -2147483648 ≤ k ∧ k < 2147483648) (hs : -2147483648 ≤ s ∧ s < 2147483648) (hu : -2147483648 ≤ u ∧ u < 2147483648)
    (h1 : ¬ ((0 ≤ k ∧ k < a 0) ∧ (0 ≤ s ∧ s < 28) ∧ (0 ≤ u ∧ u < a 1)) → K 1 σ) (h3 : (0 ≤ k ∧ k < a 0) → (0 ≤ s ∧ s < 28) → (0 ≤ u ∧ u < a 1) → s < a 3 → K 3 σ)
    (h0 : (0 ≤ k ∧ k < a 0) → (0 ≤ s ∧ s < 28) → (0 ≤ u ∧ u < a 1) → a 3 ≤ s → rsn a k s u = 0 → K 0 σ) (h5 : (0 ≤ k ∧ k < a 0) → (0 ≤ s ∧ s < 28) → (0 ≤ u ∧ u < a 1) → a 3 ≤ s → rsn a k s u ≠ 0 → K 5 (st (st σ 0 8 (zI (rsn a k s u))) 0 9 (zI (dtl a k s u)))) : wp_X4_problemOfDuty (zI k) (zI s) (zI u) σ K := by
  unfold wp_X4_problemOfDuty
  refine q_isGate hR hW hk.1 hk.2 (fun c1 c2 => one_ne ?_) (fun c => zero_eq (h1 (fun h => c h.1)))
  refine q_isSlot hs.1 hs.2 (fun c3 c4 => one_ne ?_) (fun c => zero_eq (h1 (fun h => c h.2.1)))
  refine q_isGuard hR hW hu.1 hu.2 (fun c5 c6 => one_ne' ?_) (fun c => zero_eq' (h1 (fun h => c h.2.2)))
  refine q_hasPassed hR hW hs.1 hs.2 (fun c => one_ne (h3 ⟨c1, c2⟩ ⟨c3, c4⟩ ⟨c5, c6⟩ c)) (fun c => zero_eq ?_)
  exact q_isRefused hR hW ⟨c1, c2⟩ ⟨c3, c4⟩ ⟨c5, c6⟩ (fun c9 => zero_eq (h0 ⟨c1, c2⟩ ⟨c3, c4⟩ ⟨c5, c6⟩ c c9)) (fun c9 => one_ne (h5 ⟨c1, c2⟩ ⟨c3, c4⟩ ⟨c5, c6⟩ c c9))
theorem q_problemOfFreeing (hR : RC a (σ 2)) (hW : WF a) {k s : Int} (hk : -2147483648 ≤ k ∧ k < 2147483648) (hs : -2147483648 ≤ s ∧ s < 2147483648)
    (h1 : ¬ ((0 ≤ k ∧ k < a 0) ∧ (0 ≤ s ∧ s < 28)) → K 1 σ) (h3 : (0 ≤ k ∧ k < a 0) → (0 ≤ s ∧ s < 28) → s < a 3 → K 3 σ)
    (h0 : (0 ≤ k ∧ k < a 0) → (0 ≤ s ∧ s < 28) → a 3 ≤ s → du a k s ≠ -1 → K 0 σ) (h4 : (0 ≤ k ∧ k < a 0) → (0 ≤ s ∧ s < 28) → a 3 ≤ s → du a k s = -1 → K 4 σ) : wp_X4_problemOfFreeing (zI k) (zI s) σ K := by
  have hc := hW.c
  unfold wp_X4_problemOfFreeing
  refine q_isGate hR hW hk.1 hk.2 (fun c1 c2 => one_ne ?_) (fun c => zero_eq (h1 (fun h => c h.1)))
  refine q_isSlot hs.1 hs.2 (fun c3 c4 => one_ne' ?_) (fun c => zero_eq' (h1 (fun h => c h.2)))
  refine q_hasPassed hR hW hs.1 hs.2 (fun c => one_ne (h3 ⟨c1, c2⟩ ⟨c3, c4⟩ c)) (fun c => zero_eq ?_)
  have hd := hW.dq (k := k) (s := s) ⟨c1, by omega⟩ ⟨c3, c4⟩
  exact q_guardOn hR hW c1 c2 c3 c4 (br_nm1 (by omega) (h4 ⟨c1, c2⟩ ⟨c3, c4⟩ c) (h0 ⟨c1, c2⟩ ⟨c3, c4⟩ c))
theorem m_puts {K : Mem → Prop} {k s : Int} {u : Int32} (hk : 0 ≤ k ∧ k < 5) (hs : 0 ≤ s ∧ s < 28) (h : K (st σ 26 (dp k s) u)) : wp_X5_puts (zI k) (zI s) u σ K := by
  unfold wp_X5_puts
  rw [zl_39, zl_28, zI_mul, zI_add, zI_add, zI_nat (by omega) (by omega), show 39 + 28 * k + s = 39 + k * 28 + s by omega]
  refine ⟨zI_in (by omega) (by omega) (by decide), fun σ1 e => ?_⟩
  subst e
  exact h
theorem m_assign (hG : RG a (σ 26)) (hW : WF a) {m : Int} (hw : σ 25 6 = 0) (hm : σ 25 5 = zI m) (hm1 : 0 ≤ m ∧ m ≤ 8) {k s u : Int} (hk : -2147483648 ≤ k ∧ k < 2147483648) (hs : -2147483648 ≤ s ∧ s < 2147483648) (hu : -2147483648 ≤ u ∧ u < 2147483648)
    (h1 : ¬ ((0 ≤ k ∧ k < a 0) ∧ (0 ≤ s ∧ s < 28) ∧ (0 ≤ u ∧ u < a 1)) → K 0 (st σ 25 7 1)) (h3 : (0 ≤ k ∧ k < a 0) → (0 ≤ s ∧ s < 28) → (0 ≤ u ∧ u < a 1) → s < a 3 → K 0 (st σ 25 7 2))
    (h5 : (0 ≤ k ∧ k < a 0) → (0 ≤ s ∧ s < 28) → (0 ≤ u ∧ u < a 1) → a 3 ≤ s → rsn a k s u ≠ 0 → K 0 (st (st (st (st (st σ 25 7 0) 25 16 (zI (dtl a k s u))) 25 8 (zI (rsn a k s u))) 25 9 (zI (dtl a k s u))) 25 7 3))
    (h0 : (0 ≤ k ∧ k < a 0) → (0 ≤ s ∧ s < 28) → (0 ≤ u ∧ u < a 1) → a 3 ≤ s → rsn a k s u = 0 → ∀ f : Nat → Int32, KP m f (σ 27) (σ 26) → K (zI (dts (sD a k s u) u)) (st (st (va_up (st (st (st σ 25 7 0) 25 16 (zI (dtl a k s u))) 25 7 0) 27 f) 25 5 (zI (if m + 1 < 8 then m + 1 else 8))) 26 (dp k s) (zI u))) : wp_X5_assign (zI k) (zI s) (zI u) σ K := by
  have hc := hW.c
  unfold wp_X5_assign wpJ_X5_assign_18 wpJ_X5_assign_37
  refine m_arePlace hG hW hk hs (fun c1 c2 => one_ne ?_) (fun c => zero_eq (m_f1 (n := 1) (by decide) (one_ne (h1 (fun h => c ⟨h.1, h.2.1⟩)))))
  refine m_isGuard hG hW hu (fun c3 c4 => one_ne' ?_) (fun c => zero_eq' (m_f1 (n := 1) (by decide) (one_ne (h1 (fun h => c h.2.2)))))
  rw [hG.2.2.1]
  refine br_le (by omega) (by omega) (fun c => m_f0 (zero_eq ?_)) (fun c => m_f1 (n := 2) (by decide) (one_ne (h3 c1 c2 ⟨c3, c4⟩ c)))
  refine m_isRefused (σ := st σ 25 7 0) hG hW c1 c2 ⟨c3, c4⟩ (fun c9 => zero_eq ?_) (fun c9 => one_ne (h5 c1 c2 ⟨c3, c4⟩ c c9))
  refine m_keeps_26 (σ := st (st σ 25 7 0) 25 16 _) hw hm hm1 (fun f hf => ?_)
  refine m_puts ⟨c1.1, by omega⟩ c2 ?_
  refine m_duties (a := sD a k s u) (RG.sd hG c1.1 c2.1 u) (WF_duty hW c1 c2 ⟨by omega, c4⟩) ⟨c3, by omega⟩ ?_
  exact h0 c1 c2 ⟨c3, c4⟩ c c9 f hf
theorem m_remove (hG : RG a (σ 26)) (hW : WF a) {m : Int} (hw : σ 25 6 = 0) (hm : σ 25 5 = zI m) (hm1 : 0 ≤ m ∧ m ≤ 8) {k s : Int} (hk : -2147483648 ≤ k ∧ k < 2147483648) (hs : -2147483648 ≤ s ∧ s < 2147483648)
    (h1 : ¬ ((0 ≤ k ∧ k < a 0) ∧ (0 ≤ s ∧ s < 28)) → K 0 (st σ 25 7 1)) (h2 : (0 ≤ k ∧ k < a 0) → (0 ≤ s ∧ s < 28) → s < a 3 → K 0 (st σ 25 7 2)) (h3 : (0 ≤ k ∧ k < a 0) → (0 ≤ s ∧ s < 28) → a 3 ≤ s → du a k s = -1 → K 0 (st σ 25 7 3))
    (h0 : (0 ≤ k ∧ k < a 0) → (0 ≤ s ∧ s < 28) → a 3 ≤ s → du a k s ≠ -1 → ∀ f : Nat → Int32, KP m f (σ 27) (σ 26) → K (zI (du a k s)) (st (st (va_up (st (st σ 25 7 0) 25 7 0) 27 f) 25 5 (zI (if m + 1 < 8 then m + 1 else 8))) 26 (dp k s) (zI (-1)))) : wp_X5_remove (zI k) (zI s) σ K := by
  have hc := hW.c
  unfold wp_X5_remove wpJ_X5_remove_42
  refine m_arePlace hG hW hk hs (fun c1 c2 => one_ne' ?_) (fun c => zero_eq' (m_f1 (n := 1) (by decide) (one_ne (h1 c))))
  rw [hG.2.2.1]
  refine br_le (by omega) (by omega) (fun c => ?_) (fun c => m_f1 (n := 2) (by decide) (one_ne (h2 c1 c2 c)))
  have hd := hW.dq (k := k) (s := s) ⟨c1.1, by omega⟩ c2
  refine m_who hG ⟨c1.1, by omega⟩ c2 ?_
  refine br_ge0 (by omega) (fun c9 => m_f0 (zero_eq ?_)) (fun c9 => m_f1 (n := 3) (by decide) (one_ne (h3 c1 c2 c (by omega))))
  refine m_who (σ := st σ 25 7 0) hG ⟨c1.1, by omega⟩ c2 ?_
  refine m_keeps_26 (σ := st σ 25 7 0) hw hm hm1 (fun f hf => ?_)
  exact m_puts (u := zI (-1)) ⟨c1.1, by omega⟩ c2 (h0 c1 c2 c (by omega) f hf)
end D0
theorem o_7 {σ : Mem} (hI : Inv σ) (a1 a2 a3 a4 : Int32) : wplc_7 a1 a2 a3 a4 σ Inv := by
  obtain ⟨⟨a, hW, hR, hG⟩, hX⟩ := hI
  have hc := hW.c
  obtain ⟨n, m, hn, hm, e1, e2, e3, hs9⟩ := id hX.1
  obtain ⟨k, rfl, hk⟩ := zI_ex a1
  obtain ⟨s, rfl, hs⟩ := zI_ex a2
  obtain ⟨u, rfl, hu⟩ := zI_ex a3
  unfold wplc_7 wp_L_assign wp_X4_assign
  refine q_problemOfDuty hR hW hk hs hu (fun c => tf1 (Or.inl ⟨rfl, ?_⟩)) (fun c1 c2 c3 c => tf3 (Or.inr (Or.inl ⟨rfl, ?_⟩))) (fun c1 c2 c3 c c9 => tf0 ?_) (fun c1 c2 c3 c c9 => tf5 (Or.inr (Or.inr ⟨rfl, ?_⟩)))
  · exact m_assign hG hW hX.2.2.1 e3 hm hk hs hu (fun _ => fin_i rfl (fun c => absurd c (by decide)) ⟨⟨a, hW, hR, hG⟩, hX⟩) (fun x y z _ => absurd ⟨x, y, z⟩ c) (fun x y z _ _ => absurd ⟨x, y, z⟩ c) (fun x y z _ _ => absurd ⟨x, y, z⟩ c)
  · exact m_assign hG hW hX.2.2.1 e3 hm hk hs hu (fun h => absurd ⟨c1, c2, c3⟩ h) (fun _ _ _ _ => fin_i rfl (fun c => absurd c (by decide)) ⟨⟨a, hW, hR, hG⟩, hX⟩) (fun _ _ _ h _ => absurd h (by omega)) (fun _ _ _ h _ => absurd h (by omega))
  · refine q_keep e1 hn e2 hm ?_
    refine q_setDuty (σ := st (st (wr σ (Rn σ n.toNat)) 4 1 _) 4 2 _) hR hW c1 c2 ?_
    refine q_dutyTotal (a := sD a k s u) (RC.sd hR c1.1 c2.1 u) (WF_duty hW c1 c2 ⟨by omega, c3.2⟩) (by omega) (fun σ4 e => ?_)
    subst e
    refine m_assign (σ := st (st (st (st (wr σ (Rn σ n.toNat)) 4 1 _) 4 2 _) 2 (dp k s) (zI (u + 1))) 34 0 (zI (dts (sD a k s u) u))) hG hW hX.2.2.1 e3 hm hk hs hu (fun h => absurd ⟨c1, c2, c3⟩ h) (fun _ _ _ h => absurd h (by omega)) (fun _ _ _ _ h => absurd c9 h) (fun _ _ _ _ _ f hf => ?_)
    exact fin_i rfl (fun _ => rfl) ⟨⟨sD a k s u, WF_duty hW c1 c2 ⟨by omega, c3.2⟩, RC.sd hR c1.1 c2.1 u, RG.sd hG c1.1 c2.1 u⟩, HS_push hn hm hs9 hW hR hG hf (ring_wr ⟨rfl, rfl, rfl, rfl, rfl, rfl, rfl, rfl, rfl⟩), hX.2⟩
  · refine m_assign (σ := st (st σ 0 8 _) 0 9 _) hG hW hX.2.2.1 e3 hm hk hs hu (fun h => absurd ⟨c1, c2, c3⟩ h) (fun _ _ _ h => absurd h (by omega)) (fun _ _ _ _ _ => ?_) (fun _ _ _ _ h => absurd h c9)
    exact fin_i rfl (fun c => absurd c (by decide)) ⟨⟨a, hW, hR, hG⟩, hX.1, hX.2.1, hX.2.2.1, ⟨rfl, rfl⟩, hX.2.2.2.2⟩
theorem o_9 {σ : Mem} (hI : Inv σ) (a1 a2 a3 a4 : Int32) : wplc_9 a1 a2 a3 a4 σ Inv := by
  obtain ⟨⟨a, hW, hR, hG⟩, hX⟩ := hI
  have hc := hW.c
  obtain ⟨n, m, hn, hm, e1, e2, e3, hs9⟩ := id hX.1
  obtain ⟨k, rfl, hk⟩ := zI_ex a1
  obtain ⟨s, rfl, hs⟩ := zI_ex a2
  unfold wplc_9 wp_L_remove wp_X4_remove
  refine q_problemOfFreeing hR hW hk hs (fun c => tf1 (Or.inl ⟨rfl, ?_⟩)) (fun c1 c2 c => tf3 (Or.inr (Or.inl ⟨rfl, ?_⟩))) (fun c1 c2 c c9 => tf0 ?_) (fun c1 c2 c c9 => tf4 (Or.inr (Or.inr ⟨rfl, ?_⟩)))
  · exact m_remove hG hW hX.2.2.1 e3 hm hk hs (fun _ => fin_i rfl (fun c => absurd c (by decide)) ⟨⟨a, hW, hR, hG⟩, hX⟩) (fun x y _ => absurd ⟨x, y⟩ c) (fun x y _ _ => absurd ⟨x, y⟩ c) (fun x y _ _ => absurd ⟨x, y⟩ c)
  · exact m_remove hG hW hX.2.2.1 e3 hm hk hs (fun h => absurd ⟨c1, c2⟩ h) (fun _ _ _ => fin_i rfl (fun c => absurd c (by decide)) ⟨⟨a, hW, hR, hG⟩, hX⟩) (fun _ _ h _ => absurd h (by omega)) (fun _ _ h _ => absurd h (by omega))
  · refine q_keep e1 hn e2 hm ?_
    refine q_guardOn (σ := st (st (wr σ (Rn σ n.toNat)) 4 1 _) 4 2 _) hR hW c1.1 c1.2 c2.1 c2.2 ?_
    rw [zl_m1]
    refine q_setDuty (u := -1) (σ := st (st (wr σ (Rn σ n.toNat)) 4 1 _) 4 2 _) hR hW c1 c2 ?_
    intro σ4 e
    subst e
    refine m_remove (σ := st (st (st (st (wr σ (Rn σ n.toNat)) 4 1 _) 4 2 _) 2 (dp k s) (zI (-1 + 1))) 34 0 (zI (du a k s))) hG hW hX.2.2.1 e3 hm hk hs (fun h => absurd ⟨c1, c2⟩ h) (fun _ _ h => absurd h (by omega)) (fun _ _ _ h => absurd h c9) (fun _ _ _ _ f hf => ?_)
    exact fin_i rfl (fun _ => rfl) ⟨⟨sD a k s (-1), WF_duty hW c1 c2 ⟨by omega, by omega⟩, RC.sd hR c1.1 c2.1 (-1), RG.sd hG c1.1 c2.1 (-1)⟩, HS_push hn hm hs9 hW hR hG hf (ring_wr ⟨rfl, rfl, rfl, rfl, rfl, rfl, rfl, rfl, rfl⟩), hX.2⟩
  · exact m_remove hG hW hX.2.2.1 e3 hm hk hs (fun h => absurd ⟨c1, c2⟩ h) (fun _ _ h => absurd h (by omega)) (fun _ _ _ _ => fin_i rfl (fun c => absurd c (by decide)) ⟨⟨a, hW, hR, hG⟩, hX⟩) (fun _ _ _ h => absurd c9 h)
