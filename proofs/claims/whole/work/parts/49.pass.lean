/-! slots that pass -/
def fd1 (s : Int) (a : Nat → Int) (k : Int) : Nat → Int := if du a k s = -1 then a else if a 2 ≤ 0 then iu a (19 + (du a k s).toNat) (a (19 + (du a k s).toNat) + 1) else iu a 2 (a 2 - 1)
def fc1 (s : Int) (a : Nat → Int) (k c : Int) : Int := if du a k s = -1 then c else if a 2 ≤ 0 then c + 1 else c
def fdl (s : Int) : Nat → (Nat → Int) → Int → Int → (Nat → Int) × Int
  | 0, a, _, c => (a, c)
  | r + 1, a, k, c => fdl s r (fd1 s a k) (k + 1) (fc1 s a k c)
section P1
variable {a : Nat → Int} {σ : Mem} {K : Int32 → Mem → Prop}
theorem fd1_j {s k : Int} (hW : WF a) (hk : 0 ≤ k ∧ k < 5) (hs : 0 ≤ s ∧ s < 28) {j : Nat} (h1 : j ≠ 2) (h2 : j < 19 ∨ 29 ≤ j) : fd1 s a k j = a j := by
  have hc := hW.c
  have hd := hW.dq hk hs
  unfold fd1
  split
  · rfl
  · split
    · exact iu_j _ _ (by omega)
    · exact iu_j _ _ h1
theorem fd1_W {s k : Int} (hW : WF a) (hk : 0 ≤ k ∧ k < 5) (hs : 0 ≤ s ∧ s < 28) : WF (fd1 s a k) := by
  have hc := hW.c
  have hd := hW.dq hk hs
  unfold fd1
  split
  · exact hW
  · split
    · exact WF_faint hW (by omega) _
    · exact WF_food hW (by omega)
end P1
theorem fdl_W {s : Int} (hs : 0 ≤ s ∧ s < 28) : ∀ (r : Nat) (a : Nat → Int) (k c : Int), WF a → 0 ≤ k → k + r = a 0 → WF (fdl s r a k c).1 ∧ (fdl s r a k c).1 0 = a 0 ∧ (fdl s r a k c).1 1 = a 1 ∧ (fdl s r a k c).1 3 = a 3
  | 0, a, k, c, hW, _, _ => ⟨hW, rfl, rfl, rfl⟩
  | r + 1, a, k, c, hW, h0, hr => by
    have hc := hW.c
    have e0 := fd1_j (s := s) (k := k) hW ⟨h0, by omega⟩ hs (j := 0) (by decide) (by decide)
    have e1 := fd1_j (s := s) (k := k) hW ⟨h0, by omega⟩ hs (j := 1) (by decide) (by decide)
    have e3 := fd1_j (s := s) (k := k) hW ⟨h0, by omega⟩ hs (j := 3) (by decide) (by decide)
    have ih := fdl_W hs r (fd1 s a k) (k + 1) (fc1 s a k c) (fd1_W hW ⟨h0, by omega⟩ hs) (by omega) (by omega)
    rw [e0, e1, e3] at ih
    exact ih
theorem q_feedL {K : Int32 → Mem → Prop} {s : Int} (hs : 0 ≤ s ∧ s < 28) : ∀ (r : Nat) (a : Nat → Int) (k c : Int) (σ : Mem), WF a → RC a (σ 2) → 0 ≤ k → k + r = a 0 → (∀ row : Nat → Int32, RC (fdl s r a k c).1 row → K (zI (fdl s r a k c).2) (va_up σ 2 row)) → wlp (wpF_X2_feedGuardsOf_4 K) (r + 1) (zI s, zI c, zI k, σ)
  | 0, a, k, c, σ, hW, hR, h0, hr, h => by
    have hc := hW.c
    show wpS_X2_feedGuardsOf_4 K _ (zI s) (zI c) (zI k) σ
    unfold wpS_X2_feedGuardsOf_4
    have := h (σ 2) hR
    rw [up_s] at this
    exact q_gates hR (br_le (by omega) (by omega) (fun _ => this) (fun c => absurd c (by omega)))
  | r + 1, a, k, c, σ, hW, hR, h0, hr, h => by
    have hc := hW.c
    have hd := hW.dq (k := k) (s := s) ⟨h0, by omega⟩ hs
    have e0 := fd1_j (s := s) (k := k) hW ⟨h0, by omega⟩ hs (j := 0) (by decide) (by decide)
    have hW2 := fd1_W (s := s) (k := k) hW ⟨h0, by omega⟩ hs
    have ih := fun σ' hR2 h2 => q_feedL (K := K) hs r (fd1 s a k) (k + 1) (fc1 s a k c) σ' hW2 hR2 (by omega) (by omega) h2
    show wpS_X2_feedGuardsOf_4 K (wlp (wpF_X2_feedGuardsOf_4 K) (r + 1)) (zI s) (zI c) (zI k) σ
    unfold wpS_X2_feedGuardsOf_4
    refine q_gates hR (br_le (by omega) (by omega) (fun c => absurd c (by omega)) (fun _ => ?_))
    refine q_guardOn hR hW h0 (by omega) hs.1 hs.2 ?_
    refine q_isGuard hR hW (by omega) (by omega) (fun c1 c2 => one_ne ?_) (fun c1 => zero_eq ?_)
    · rw [hR.1 2 (by decide)]
      refine br_le0 (by omega) (fun c3 => ?_) (fun c3 σ16 e16 => ?_)
      · have e1 : fd1 s a k = iu a (19 + (du a k s).toNat) (a (19 + (du a k s).toNat) + 1) := by
          unfold fd1
          rw [if_neg (by omega), if_pos c3]
        have e2 : fc1 s a k c = c + 1 := by
          unfold fc1
          rw [if_neg (by omega), if_pos c3]
        unfold wpJ_X2_feedGuardsOf_51 wpJ_X2_feedGuardsOf_77
        refine q_isGuard hR hW (by omega) (by omega) (fun _ _ => one_ne ?_) (fun c => absurd ⟨c1, c2⟩ c)
        rw [zl_19, zI_add, zI_nat (by omega) (by omega), show (19 + du a k s).toNat = 19 + (du a k s).toNat by omega, hR.1 _ (by omega), zl_1, zI_add]
        refine ⟨zI_in (by omega) (by omega) (by decide), zI_in (by omega) (by omega) (by decide), fun σ13 e13 v14 e14 v12 e12 => ?_⟩
        rw [zI_add] at e14 e12
        subst e13; subst e14; subst e12
        rw [← e2]
        refine ih _ (by rw [e1]; exact RC_u hR (by omega) _) (fun row w => ?_)
        rw [up_up]
        exact h row w
      · have e1 : fd1 s a k = iu a 2 (a 2 - 1) := by
          unfold fd1
          rw [if_neg (by omega), if_neg (by omega)]
        have e2 : fc1 s a k c = c := by
          unfold fc1
          rw [if_neg (by omega), if_neg (by omega)]
        rw [zl_1, zI_sub] at e16
        subst e16
        unfold wpJ_X2_feedGuardsOf_77
        intro v12 e12
        rw [zl_1, zI_add] at e12
        subst e12
        rw [e2] at ih
        refine ih _ (by rw [e1]; exact RC_u hR (by decide) _) (fun row w => ?_)
        rw [up_up]
        have := h row
        rw [show fdl s (r + 1) a k c = fdl s r (fd1 s a k) (k + 1) (fc1 s a k c) from rfl, e2] at this
        exact this w
    · have c2 : du a k s = -1 := by omega
      have e1 : fd1 s a k = a := if_pos c2
      have e2 : fc1 s a k c = c := if_pos c2
      unfold wpJ_X2_feedGuardsOf_51 wpJ_X2_feedGuardsOf_77
      refine q_isGuard hR hW (by omega) (by omega) (fun c3 c4 => absurd ⟨c3, c4⟩ c1) (fun _ => zero_eq (fun v12 e12 => ?_))
      rw [zl_1, zI_add] at e12
      subst e12
      rw [e2, e1] at ih
      refine ih _ hR (fun row w => ?_)
      have := h row
      rw [show fdl s (r + 1) a k c = fdl s r (fd1 s a k) (k + 1) (fc1 s a k c) from rfl, e1, e2] at this
      exact this w
theorem m_goesL {K : Int32 → Mem → Prop} {s : Int} (hs : 0 ≤ s ∧ s < 28) : ∀ (r : Nat) (a : Nat → Int) (k c : Int) (σ : Mem), WF a → RG a (σ 26) → a 3 = s → 0 ≤ k → k + r = a 0 → (∀ row : Nat → Int32, RG (iu (fdl s r a k c).1 3 (s + 1)) row → K (zI (fdl s r a k c).2) (va_up σ 26 row)) → wlp (wpF_X5_goes_4 K) (r + 1) (zI c, zI k, σ)
  | 0, a, k, c, σ, hW, hG, h3, h0, hr, h => by
    have hc := hW.c
    show wpS_X5_goes_4 K _ (zI c) (zI k) σ
    unfold wpS_X5_goes_4 wpJ_X5_goes_81
    rw [hG.1, hG.2.2.1, h3]
    refine br_le (by omega) (by omega) (fun _ σ2 e2 => ?_) (fun c => absurd c (by omega))
    rw [zl_1, zI_add] at e2
    subst e2
    exact h _ (RG_now hG _)
  | r + 1, a, k, c, σ, hW, hG, h3, h0, hr, h => by
    have hc := hW.c
    have hd := hW.dq (k := k) (s := s) ⟨h0, by omega⟩ hs
    have e0 := fd1_j (s := s) (k := k) hW ⟨h0, by omega⟩ hs (j := 0) (by decide) (by decide)
    have e3 := fd1_j (s := s) (k := k) hW ⟨h0, by omega⟩ hs (j := 3) (by decide) (by decide)
    have hW2 := fd1_W (s := s) (k := k) hW ⟨h0, by omega⟩ hs
    have ih := fun σ' hR2 h2 => m_goesL (K := K) hs r (fd1 s a k) (k + 1) (fc1 s a k c) σ' hW2 hR2 (by omega) (by omega) (by omega) h2
    show wpS_X5_goes_4 K (wlp (wpF_X5_goes_4 K) (r + 1)) (zI c) (zI k) σ
    unfold wpS_X5_goes_4 wpJ_X5_goes_75
    rw [hG.1, hG.2.2.1, h3]
    refine br_le (by omega) (by omega) (fun c => absurd c (by omega)) (fun _ => ?_)
    refine m_who hG ⟨h0, by omega⟩ hs (br_ge0 (by omega) (fun c1 => ?_) (fun c1 v9 e9 => ?_))
    · rw [hG.2.2.2.1]
      refine br_le0 (by omega) (fun c3 => ?_) (fun c3 σ10 e10 v9 e9 => ?_)
      · have e1 : fd1 s a k = iu a (19 + (du a k s).toNat) (a (19 + (du a k s).toNat) + 1) := by
          unfold fd1
          rw [if_neg (by omega), if_pos c3]
        have e2 : fc1 s a k c = c + 1 := by
          unfold fc1
          rw [if_neg (by omega), if_pos c3]
        rw [zl_9, zl_2, zl_1, zI_mul, zI_add, zI_add, zI_nat (by omega) (by omega), show (9 + 2 * du a k s + 1).toNat = 10 + 2 * (du a k s).toNat by omega, (hG.2.2.2.2.2.1 _ (by omega)).2.1, zI_add]
        refine ⟨zI_in (by omega) (by omega) (by decide), zI_in (by omega) (by omega) (by decide), fun σ13 e13 v14 e14 v12 e12 => ?_⟩
        rw [zI_add] at e14 e12
        subst e13; subst e14; subst e12
        rw [← e2]
        refine ih _ (by rw [e1]; exact RG_faint hG (by omega) _) (fun row w => ?_)
        rw [up_up]
        exact h row w
      · have e1 : fd1 s a k = iu a 2 (a 2 - 1) := by
          unfold fd1
          rw [if_neg (by omega), if_neg (by omega)]
        have e2 : fc1 s a k c = c := by
          unfold fc1
          rw [if_neg (by omega), if_neg (by omega)]
        rw [zl_1, zI_sub] at e10
        rw [zl_1, zI_add] at e9
        subst e10; subst e9
        rw [e2] at ih
        refine ih _ (by rw [e1]; exact RG_food hG _) (fun row w => ?_)
        rw [up_up]
        have := h row
        rw [show fdl s (r + 1) a k c = fdl s r (fd1 s a k) (k + 1) (fc1 s a k c) from rfl, e2] at this
        exact this w
    · have c2 : du a k s = -1 := by omega
      have e1 : fd1 s a k = a := if_pos c2
      have e2 : fc1 s a k c = c := if_pos c2
      rw [zl_1, zI_add] at e9
      subst e9
      rw [e2, e1] at ih
      refine ih _ hG (fun row w => ?_)
      have := h row
      rw [show fdl s (r + 1) a k c = fdl s r (fd1 s a k) (k + 1) (fc1 s a k c) from rfl, e1, e2] at this
      exact this w
/-- one slot, and several -/
def ps1 (a : Nat → Int) : Nat → Int := iu (fdl (a 3) (a 0).toNat a 0 0).1 3 (a 3 + 1)
def pc1 (a : Nat → Int) : Int := (fdl (a 3) (a 0).toNat a 0 0).2
def psl : Nat → (Nat → Int) → Int → (Nat → Int) × Int
  | 0, a, c => (a, c)
  | r + 1, a, c => psl r (ps1 a) (c + pc1 a)
theorem ps1_W {a : Nat → Int} (hW : WF a) (h : a 3 < 28) : WF (ps1 a) ∧ ps1 a 3 = a 3 + 1 := by
  have hc := hW.c
  have := fdl_W (s := a 3) ⟨by omega, h⟩ (a 0).toNat a 0 0 hW (by decide) (by omega)
  exact ⟨WF_now this.1 (by omega), iu_e _ _ _⟩
theorem psl_W : ∀ (r : Nat) (a : Nat → Int) (c : Int), WF a → a 3 + r ≤ 28 → WF (psl r a c).1
  | 0, _, _, hW, _ => hW
  | r + 1, a, c, hW, h => by
    have := ps1_W hW (by omega)
    exact psl_W r (ps1 a) (c + pc1 a) this.1 (by omega)
theorem up_up2 (σ : Mem) (c : Nat) (f g : Nat → Int32) : va_up (va_up σ c f) c g = va_up σ c g := by
  funext d i
  unfold va_up
  by_cases h : d = c
  · rw [if_pos h, if_pos h]
  · rw [if_neg h, if_neg h, if_neg h]
theorem q_letPassL {K : Int32 → Mem → Prop} {n : Int} (hn : 0 ≤ n ∧ n ≤ 28) : ∀ (r : Nat) (a : Nat → Int) (i c : Int) (σ : Mem), WF a → RC a (σ 2) → a 3 + r ≤ 28 → i + r = n → 0 ≤ i → (∀ row : Nat → Int32, RC (psl r a c).1 row → K (zI (psl r a c).2) (va_up σ 2 row)) → wlp (wpF_X2_letPass_4 K) (r + 1) (zI n, zI c, zI i, σ)
  | 0, a, i, c, σ, hW, hR, h3, hi, h0, h => by
    show wpS_X2_letPass_4 K _ (zI n) (zI c) (zI i) σ
    unfold wpS_X2_letPass_4
    have := h (σ 2) hR
    rw [up_s] at this
    exact br_le (by omega) (by omega) (fun _ => this) (fun c => absurd c (by omega))
  | r + 1, a, i, c, σ, hW, hR, h3, hi, h0, h => by
    have hc := hW.c
    have hp := ps1_W hW (by omega)
    show wpS_X2_letPass_4 K (wlp (wpF_X2_letPass_4 K) (r + 1)) (zI n) (zI c) (zI i) σ
    unfold wpS_X2_letPass_4
    refine br_le (by omega) (by omega) (fun c => absurd c (by omega)) (fun _ => ?_)
    rw [hR.1 3 (by decide), zl_28]
    refine br_le (by omega) (by omega) (fun c => absurd c (by omega)) (fun _ => ?_)
    unfold wp_X2_feedGuardsOf
    have hF := fdl_W (s := a 3) ⟨by omega, by omega⟩ (a 0).toNat a 0 0 hW (by decide) (by omega)
    refine ⟨(a 0).toNat + 1, q_feedL (s := a 3) ⟨by omega, by omega⟩ (a 0).toNat a 0 0 σ hW hR (by decide) (by omega) (fun row w v5 e5 σ6 e6 v7 e7 => ?_)⟩
    rw [zI_add] at e5
    rw [show va_up σ 2 row 2 3 = row 3 from rfl, w.1 3 (by decide), hF.2.2.2, zl_1, zI_add, st_u] at e6
    rw [zl_1, zI_add] at e7
    subst e5; subst e6; subst e7
    refine q_letPassL hn r (ps1 a) (i + 1) (c + pc1 a) _ hp.1 (RC_u w (by decide) _) (by omega) (by omega) (by omega) (fun row2 w2 => ?_)
    rw [up_up2]
    exact h row2 w2
theorem m_passL {K : Int32 → Mem → Prop} {n : Int} (hn : 0 ≤ n ∧ n ≤ 28) : ∀ (r : Nat) (a : Nat → Int) (i c : Int) (σ : Mem), WF a → RG a (σ 26) → a 3 + r ≤ 28 → i + r = n → 0 ≤ i → (∀ row : Nat → Int32, RG (psl r a c).1 row → K (zI (psl r a c).2) (va_up σ 26 row)) → wlp (wpF_X5_passSlots_53 K) (r + 1) (zI n, zI c, zI i, σ)
  | 0, a, i, c, σ, hW, hG, h3, hi, h0, h => by
    show wpS_X5_passSlots_53 K _ (zI n) (zI c) (zI i) σ
    unfold wpS_X5_passSlots_53
    have := h (σ 26) hG
    rw [up_s] at this
    exact br_le (by omega) (by omega) (fun _ => this) (fun c => absurd c (by omega))
  | r + 1, a, i, c, σ, hW, hG, h3, hi, h0, h => by
    have hc := hW.c
    have hp := ps1_W hW (by omega)
    show wpS_X5_passSlots_53 K (wlp (wpF_X5_passSlots_53 K) (r + 1)) (zI n) (zI c) (zI i) σ
    unfold wpS_X5_passSlots_53
    refine br_le (by omega) (by omega) (fun c => absurd c (by omega)) (fun _ => ?_)
    unfold wp_X5_goes
    refine ⟨(a 0).toNat + 1, m_goesL (s := a 3) ⟨by omega, by omega⟩ (a 0).toNat a 0 0 σ hW hG rfl (by decide) (by omega) (fun row w v12 e12 v13 e13 => ?_)⟩
    rw [zI_add] at e12
    rw [zl_1, zI_add] at e13
    subst e12; subst e13
    refine m_passL hn r (ps1 a) (i + 1) (c + pc1 a) _ hp.1 w (by omega) (by omega) (by omega) (fun row2 w2 => ?_)
    rw [up_up2]
    exact h row2 w2
section P2
variable {a : Nat → Int} {σ : Mem} {K : Int32 → Mem → Prop}
theorem q_letPass (hR : RC a (σ 2)) (hW : WF a) {n : Int} (hn : 0 ≤ n) (h3 : a 3 + n ≤ 28) (h : ∀ row : Nat → Int32, RC (psl n.toNat a 0).1 row → K (zI (psl n.toNat a 0).2) (va_up σ 2 row)) : wp_X2_letPass (zI n) σ K := by
  have hc := hW.c
  exact ⟨n.toNat + 1, q_letPassL ⟨hn, by omega⟩ n.toNat a 0 0 σ hW hR (by omega) (by omega) (by decide) h⟩
theorem q_problemOfPassing (hR : RC a (σ 2)) (hW : WF a) {n : Int} (hn : -2147483648 ≤ n ∧ n < 2147483648) (h2 : ¬ (1 ≤ n ∧ n ≤ 28) → K 2 σ) (h3 : (1 ≤ n ∧ n ≤ 28) → 28 < a 3 + n → K 3 σ) (h0 : (1 ≤ n ∧ n ≤ 28) → a 3 + n ≤ 28 → K 0 σ) : wp_X4_problemOfPassing (zI n) σ K := by
  have hc := hW.c
  unfold wp_X4_problemOfPassing
  rw [zl_1, zl_28]
  refine br_lt hn (by omega) (fun c => h2 (by omega)) (fun c => br_le hn (by omega) (fun c2 => q_now hR ?_) (fun c2 => h2 (by omega)))
  rw [zI_sub]
  exact br_le hn (by omega) (fun c3 => h0 ⟨c, c2⟩ (by omega)) (fun c3 => h3 ⟨c, c2⟩ (by omega))
theorem m_passSlots (hG : RG a (σ 26)) (hW : WF a) {m : Int} (hw : σ 25 6 = 0) (hm : σ 25 5 = zI m) (hm1 : 0 ≤ m ∧ m ≤ 8) {n : Int} (hn : -2147483648 ≤ n ∧ n < 2147483648) (h1 : ¬ (1 ≤ n ∧ n ≤ 28) → K 0 (st σ 25 7 1)) (h2 : (1 ≤ n ∧ n ≤ 28) → 28 < a 3 + n → K 0 (st σ 25 7 2))
    (h0 : (1 ≤ n ∧ n ≤ 28) → a 3 + n ≤ 28 → ∀ f : Nat → Int32, KP m f (σ 27) (σ 26) → ∀ row : Nat → Int32, RG (psl n.toNat a 0).1 row → K (zI (psl n.toNat a 0).2) (va_up (st (va_up (st (st σ 25 7 0) 25 7 0) 27 f) 25 5 (zI (if m + 1 < 8 then m + 1 else 8))) 26 row)) : wp_X5_passSlots (zI n) σ K := by
  have hc := hW.c
  unfold wp_X5_passSlots wpJ_X5_passSlots_33
  rw [zl_1, zl_28]
  refine m_in hn (by omega) (by omega) (fun c1 c2 => ?_) (fun c => zero_eq' (m_f1 (n := 1) (by decide) (one_ne (h1 c))))
  refine one_ne' ?_
  rw [hG.2.2.1, zI_sub]
  refine br_le hn (by omega) (fun c3 => m_f0 (zero_eq ?_)) (fun c3 => m_f1 (n := 2) (by decide) (one_ne (h2 ⟨c1, c2⟩ (by omega))))
  refine m_keeps_26 (σ := st σ 25 7 0) hw hm hm1 (fun f hf => ?_)
  exact ⟨n.toNat + 1, m_passL ⟨by omega, by omega⟩ n.toNat a 0 0 _ hW hG (by omega) (by omega) (by decide) (h0 ⟨c1, c2⟩ (by omega) f hf)⟩
end P2
theorem o_29 {σ : Mem} (hI : Inv σ) (a1 a2 a3 a4 : Int32) : wplc_29 a1 a2 a3 a4 σ Inv := by
  obtain ⟨⟨a, hW, hR, hG⟩, hX⟩ := hI
  have hc := hW.c
  obtain ⟨k, m, hk, hm, e1, e2, e3, hs9⟩ := id hX.1
  obtain ⟨n, rfl, hn⟩ := zI_ex a1
  unfold wplc_29 wp_L_passSlots wp_X4_passSlots
  refine q_problemOfPassing hR hW hn (fun c => tf2 (Or.inl ⟨rfl, ?_⟩)) (fun c1 c => tf3 (Or.inr ⟨rfl, ?_⟩)) (fun c1 c => tf0 ?_)
  · exact m_passSlots hG hW hX.2.2.1 e3 hm hn (fun _ => fin_i rfl (fun c => absurd c (by decide)) ⟨⟨a, hW, hR, hG⟩, hX⟩) (fun h => absurd h c) (fun h => absurd h c)
  · exact m_passSlots hG hW hX.2.2.1 e3 hm hn (fun h => absurd c1 h) (fun _ _ => fin_i rfl (fun c => absurd c (by decide)) ⟨⟨a, hW, hR, hG⟩, hX⟩) (fun _ h => absurd h (by omega))
  · refine q_keep e1 hk e2 hm ?_
    refine q_letPass (σ := st (st (wr σ (Rn σ k.toNat)) 4 1 _) 4 2 _) hR hW (by omega) c (fun row hR2 σ4 e => ?_)
    subst e
    refine m_passSlots (σ := st (va_up (st (st (wr σ (Rn σ k.toNat)) 4 1 _) 4 2 _) 2 row) 34 0 _) hG hW hX.2.2.1 e3 hm hn (fun h => absurd c1 h) (fun _ h => absurd h (by omega)) (fun _ _ f hf row2 hG2 => ?_)
    exact fin_i rfl (fun _ => rfl) ⟨⟨_, psl_W n.toNat a 0 hW (by omega), hR2, hG2⟩, HS_push hk hm hs9 hW hR hG hf (ring_wr ⟨rfl, rfl, rfl, rfl, rfl, rfl, rfl, rfl, rfl⟩), hX.2⟩
