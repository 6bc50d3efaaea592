/-! the model's ops inside a text of commands: no copy is kept -/
theorem m_keepsW {σ : Mem} {K : Mem → Prop} (hw : σ 25 6 = 1) (h : K (st σ 25 7 0)) : wp_X5_keeps_26 σ K := by
  unfold wp_X5_keeps_26
  intro σ1 e1
  subst e1
  rw [show st σ 25 7 0 25 6 = σ 25 6 from rfl, hw]
  exact ⟨fun c => absurd c (by decide), fun _ => h⟩
section V0
variable {a : Nat → Int} {σ : Mem} {K : Int32 → Mem → Prop}
theorem w_addGate (hG : RG a (σ 26)) (hW : WF a) (hw : σ 25 6 = 1) {v : Int} (hv : -2147483648 ≤ v ∧ v < 2147483648) (h1 : ¬ (1 ≤ v ∧ v ≤ 9) → K 0 (st σ 25 7 1)) (h2 : (1 ≤ v ∧ v ≤ 9) → a 0 = 5 → K 0 (st σ 25 7 2)) (h0 : (1 ≤ v ∧ v ≤ 9) → a 0 < 5 → K (zI (a 0)) (st (st (st (st σ 25 7 0) 25 7 0) 26 (4 + (a 0).toNat) (zI v)) 26 0 (zI (a 0 + 1)))) : wp_X5_addGate (zI v) σ K := by
  have hc := hW.c
  unfold wp_X5_addGate wpJ_X5_addGate_30
  refine m_in (lo := 1) (hi := 9) hv (by decide) (by decide) (fun c1 c2 => one_ne' ?_) (fun c => zero_eq' (m_f1 (n := 1) (by decide) (one_ne (h1 c))))
  rw [hG.1]
  refine br_ne (x := a 0) (y := 5) (by omega) (by decide) (fun c => m_f1 (n := 2) (by decide) (one_ne (h2 ⟨c1, c2⟩ c))) (fun c => m_f0 (zero_eq ?_))
  refine m_keepsW (σ := st σ 25 7 0) hw ?_
  have e0 : (st (st σ 25 7 0) 25 7 0) 26 0 = zI (a 0) := hG.1
  rw [e0, zl_4, zI_add, zI_nat (by omega) (by omega), show (4 + a 0).toNat = 4 + (a 0).toNat by omega]
  refine ⟨zI_in (by omega) (by omega) (by decide), fun σ9 e9 σ10 e10 => ?_⟩
  subst e10; subst e9
  rw [st_e, st_j _ _ _ (show (0 : Nat) ≠ 4 + (a 0).toNat by omega), e0, zl_1, zI_add, zI_sub, show a 0 + 1 - 1 = a 0 by omega]
  exact h0 ⟨c1, c2⟩ (by omega)
theorem w_addGuard (hG : RG a (σ 26)) (hW : WF a) (hw : σ 25 6 = 1) {v : Int} (hv : -2147483648 ≤ v ∧ v < 2147483648) (h1 : ¬ (1 ≤ v ∧ v ≤ 9) → K 0 (st σ 25 7 1)) (h2 : (1 ≤ v ∧ v ≤ 9) → a 1 = 10 → K 0 (st σ 25 7 2)) (h0 : (1 ≤ v ∧ v ≤ 9) → a 1 < 10 → K (zI (a 1)) (st (st (st (st σ 25 7 0) 25 7 0) 26 (9 + 2 * (a 1).toNat) (zI v)) 26 1 (zI (a 1 + 1)))) : wp_X5_addGuard (zI v) σ K := by
  have hc := hW.c
  unfold wp_X5_addGuard wpJ_X5_addGuard_31
  refine m_in (lo := 1) (hi := 9) hv (by decide) (by decide) (fun c1 c2 => one_ne' ?_) (fun c => zero_eq' (m_f1 (n := 1) (by decide) (one_ne (h1 c))))
  rw [hG.2.1]
  refine br_ne (x := a 1) (y := 10) (by omega) (by decide) (fun c => m_f1 (n := 2) (by decide) (one_ne (h2 ⟨c1, c2⟩ c))) (fun c => m_f0 (zero_eq ?_))
  refine m_keepsW (σ := st σ 25 7 0) hw ?_
  have e0 : (st (st σ 25 7 0) 25 7 0) 26 1 = zI (a 1) := hG.2.1
  rw [e0, zl_9, zl_2, zI_mul, zI_add, zI_nat (by omega) (by omega), show (9 + 2 * a 1).toNat = 9 + 2 * (a 1).toNat by omega]
  refine ⟨zI_in (by omega) (by omega) (by decide), fun σ9 e9 σ10 e10 => ?_⟩
  subst e10; subst e9
  rw [st_e, st_j _ _ _ (show (1 : Nat) ≠ 9 + 2 * (a 1).toNat by omega), e0, zl_1, zI_add, zI_sub, show a 1 + 1 - 1 = a 1 by omega]
  exact h0 ⟨c1, c2⟩ (by omega)
theorem w_addRations (hG : RG a (σ 26)) (hW : WF a) (hw : σ 25 6 = 1) {v : Int} (hv : -2147483648 ≤ v ∧ v < 2147483648) (h1 : ¬ (1 ≤ v ∧ v ≤ 50) → K 0 (st σ 25 7 1)) (h2 : (1 ≤ v ∧ v ≤ 50) → 99 < a 2 + v → K 0 (st σ 25 7 2)) (h0 : (1 ≤ v ∧ v ≤ 50) → a 2 + v ≤ 99 → K (zI (a 2 + v)) (st (st (st σ 25 7 0) 25 7 0) 26 3 (zI (a 2 + v)))) : wp_X5_addRations (zI v) σ K := by
  have hc := hW.c
  unfold wp_X5_addRations wpJ_X5_addRations_33
  refine m_in (lo := 1) (hi := 50) hv (by decide) (by decide) (fun c1 c2 => one_ne' ?_) (fun c => zero_eq' (m_f1 (n := 1) (by decide) (one_ne (h1 c))))
  rw [hG.2.2.2.1, zI_add]
  refine br_le (x := a 2 + v) (y := 99) (by omega) (by decide) (fun c => m_f0 (zero_eq ?_)) (fun c => m_f1 (n := 2) (by decide) (one_ne (h2 ⟨c1, c2⟩ c)))
  refine m_keepsW (σ := st σ 25 7 0) hw ?_
  have e0 : (st (st σ 25 7 0) 25 7 0) 26 3 = zI (a 2) := hG.2.2.2.1
  intro σ9 e9
  subst e9
  rw [st_e, e0, zI_add]
  exact h0 ⟨c1, c2⟩ c
end V0
section V1
variable {a : Nat → Int} {σ : Mem}
theorem w_assign {K : Int32 → Mem → Prop} (hG : RG a (σ 26)) (hW : WF a) (hw : σ 25 6 = 1) {k s u : Int} (hk : -2147483648 ≤ k ∧ k < 2147483648) (hs : -2147483648 ≤ s ∧ s < 2147483648) (hu : -2147483648 ≤ u ∧ u < 2147483648)
    (h1 : ¬ ((0 ≤ k ∧ k < a 0) ∧ (0 ≤ s ∧ s < 28) ∧ (0 ≤ u ∧ u < a 1)) → K 0 (st σ 25 7 1)) (h3 : (0 ≤ k ∧ k < a 0) → (0 ≤ s ∧ s < 28) → (0 ≤ u ∧ u < a 1) → s < a 3 → K 0 (st σ 25 7 2))
    (h5 : (0 ≤ k ∧ k < a 0) → (0 ≤ s ∧ s < 28) → (0 ≤ u ∧ u < a 1) → a 3 ≤ s → rsn a k s u ≠ 0 → K 0 (st (st (st (st (st σ 25 7 0) 25 16 (zI (dtl a k s u))) 25 8 (zI (rsn a k s u))) 25 9 (zI (dtl a k s u))) 25 7 3))
    (h0 : (0 ≤ k ∧ k < a 0) → (0 ≤ s ∧ s < 28) → (0 ≤ u ∧ u < a 1) → a 3 ≤ s → rsn a k s u = 0 → K (zI (dts (sD a k s u) u)) (st (st (st (st σ 25 7 0) 25 16 (zI (dtl a k s u))) 25 7 0) 26 (dp k s) (zI u))) : wp_X5_assign (zI k) (zI s) (zI u) σ K := by
  have hc := hW.c
  unfold wp_X5_assign wpJ_X5_assign_18 wpJ_X5_assign_37
  refine m_arePlace hG hW hk hs (fun c1 c2 => one_ne ?_) (fun c => zero_eq (m_f1 (n := 1) (by decide) (one_ne (h1 (fun h => c ⟨h.1, h.2.1⟩)))))
  refine m_isGuard hG hW hu (fun c3 c4 => one_ne' ?_) (fun c => zero_eq' (m_f1 (n := 1) (by decide) (one_ne (h1 (fun h => c h.2.2)))))
  rw [hG.2.2.1]
  refine br_le (by omega) (by omega) (fun c => m_f0 (zero_eq ?_)) (fun c => m_f1 (n := 2) (by decide) (one_ne (h3 c1 c2 ⟨c3, c4⟩ c)))
  refine m_isRefused (σ := st σ 25 7 0) hG hW c1 c2 ⟨c3, c4⟩ (fun c9 => zero_eq ?_) (fun c9 => one_ne (h5 c1 c2 ⟨c3, c4⟩ c c9))
  refine m_keepsW (σ := st (st σ 25 7 0) 25 16 _) hw ?_
  refine m_puts ⟨c1.1, by omega⟩ c2 ?_
  refine m_duties (a := sD a k s u) (RG.sd hG c1.1 c2.1 u) (WF_duty hW c1 c2 ⟨by omega, c4⟩) ⟨c3, by omega⟩ ?_
  exact h0 c1 c2 ⟨c3, c4⟩ c c9
theorem w_remove {K : Int32 → Mem → Prop} (hG : RG a (σ 26)) (hW : WF a) (hw : σ 25 6 = 1) {k s : Int} (hk : -2147483648 ≤ k ∧ k < 2147483648) (hs : -2147483648 ≤ s ∧ s < 2147483648)
    (h1 : ¬ ((0 ≤ k ∧ k < a 0) ∧ (0 ≤ s ∧ s < 28)) → K 0 (st σ 25 7 1)) (h2 : (0 ≤ k ∧ k < a 0) → (0 ≤ s ∧ s < 28) → s < a 3 → K 0 (st σ 25 7 2)) (h3 : (0 ≤ k ∧ k < a 0) → (0 ≤ s ∧ s < 28) → a 3 ≤ s → du a k s = -1 → K 0 (st σ 25 7 3))
    (h0 : (0 ≤ k ∧ k < a 0) → (0 ≤ s ∧ s < 28) → a 3 ≤ s → du a k s ≠ -1 → K (zI (du a k s)) (st (st (st σ 25 7 0) 25 7 0) 26 (dp k s) (zI (-1)))) : wp_X5_remove (zI k) (zI s) σ K := by
  have hc := hW.c
  unfold wp_X5_remove wpJ_X5_remove_42
  refine m_arePlace hG hW hk hs (fun c1 c2 => one_ne' ?_) (fun c => zero_eq' (m_f1 (n := 1) (by decide) (one_ne (h1 c))))
  rw [hG.2.2.1]
  refine br_le (by omega) (by omega) (fun c => ?_) (fun c => m_f1 (n := 2) (by decide) (one_ne (h2 c1 c2 c)))
  have hd := hW.dq (k := k) (s := s) ⟨c1.1, by omega⟩ c2
  refine m_who hG ⟨c1.1, by omega⟩ c2 ?_
  refine br_ge0 (by omega) (fun c9 => m_f0 (zero_eq ?_)) (fun c9 => m_f1 (n := 3) (by decide) (one_ne (h3 c1 c2 c (by omega))))
  refine m_who (σ := st σ 25 7 0) hG ⟨c1.1, by omega⟩ c2 ?_
  refine m_keepsW (σ := st σ 25 7 0) hw ?_
  exact m_puts (u := zI (-1)) ⟨c1.1, by omega⟩ c2 (h0 c1 c2 c (by omega))
theorem w_grantLeave {K : Int32 → Mem → Prop} (hG : RG a (σ 26)) (hW : WF a) (hw : σ 25 6 = 1) {u f l : Int} (hu : -2147483648 ≤ u ∧ u < 2147483648) (hf : -2147483648 ≤ f ∧ f < 2147483648) (hl : -2147483648 ≤ l ∧ l < 2147483648)
    (h1 : ¬ (0 ≤ u ∧ u < a 1) → K 0 (st σ 25 7 1)) (h2 : (0 ≤ u ∧ u < a 1) → ¬ (0 ≤ f ∧ f ≤ l ∧ l < 28) → K 0 (st σ 25 7 2)) (h3 : (0 ≤ u ∧ u < a 1) → (0 ≤ f ∧ f ≤ l ∧ l < 28) → f < a 3 → K 0 (st (st σ 25 7 0) 25 7 3))
    (h5 : (0 ≤ u ∧ u < a 1) → (0 ≤ f ∧ f ≤ l ∧ l < 28) → a 3 ≤ f → fgh a u f l ≠ -1 → K 0 (st (st (st (st (st σ 25 7 0) 25 7 0) 25 8 4) 25 9 (zI (fgh a u f l))) 25 7 4))
    (h0 : (0 ≤ u ∧ u < a 1) → (0 ≤ f ∧ f ≤ l ∧ l < 28) → a 3 ≤ f → fgh a u f l = -1 → K (Int32.ofNat (sb (gl a u f l)) - Int32.ofNat (sb (lv a u))) (st (st (st (st σ 25 7 0) 25 7 0) 25 7 0) 26 (29 + u.toNat) (Int32.ofNat (gl a u f l)))) : wp_X5_grantLeave (zI u) (zI f) (zI l) σ K := by
  have hc := hW.c
  unfold wp_X5_grantLeave wpJ_X5_grantLeave_36 wpJ_X5_grantLeave_37
  refine m_isGuard hG hW hu (fun c1 c2 => one_ne' ?_) (fun c => zero_eq' (m_f1 (n := 1) (by decide) (one_ne (h1 c))))
  refine m_isSlot hf (fun c3 c4 => one_ne ?_) (fun c => zero_eq (m_f1 (n := 2) (by decide) (one_ne (h2 ⟨c1, c2⟩ (by omega)))))
  refine m_isSlot hl (fun c5 c6 => one_ne ?_) (fun c => zero_eq (m_f1 (n := 2) (by decide) (one_ne (h2 ⟨c1, c2⟩ (by omega)))))
  refine br_lt hl hf (fun c => m_f1 (n := 2) (by decide) (one_ne (h2 ⟨c1, c2⟩ (by omega)))) (fun c7 => ?_)
  refine m_f0 (zero_eq ?_)
  rw [show st σ 25 7 0 26 = σ 26 from rfl, hG.2.2.1]
  unfold wpJ_X5_grantLeave_61
  refine br_le (by omega) (by omega) (fun c8 => m_f0 (zero_eq ?_)) (fun c => m_f1 (n := 3) (by decide) (one_ne (h3 ⟨c1, c2⟩ ⟨c3, c7, c6⟩ c)))
  have hb := lvb hW (u := u) ⟨c1, by omega⟩
  have hg := gl_lt hW (u := u) ⟨c1, by omega⟩ ⟨c3, c7⟩ c6
  have h9 := lpI (F := wpF_X5_grantLeave_75 K) (fun j => (zI u, zI f, Int32.ofNat (mkN (l + 1 - j).toNat j.toNat), zI (l - j), gT (st (st σ 25 7 0) 25 7 0) (fgh a u (l + 1 - j) l))) (fun j => 0 ≤ j) (l - f + 1) (fun B hP => ?_) (fun j B hi hP hB => ?_) 0 (by omega) (by decide)
  · have eg : gT (st (st σ 25 7 0) 25 7 0) (-1) = st (st σ 25 7 0) 25 7 0 := if_pos rfl
    rw [show l + 1 - 0 = l + 1 by omega, fgh_end, eg, Int.sub_zero] at h9
    exact h9
  · show wpS_X5_grantLeave_75 K B (zI u) (zI f) (Int32.ofNat (mkN (l + 1 - (l - f + 1)).toNat (l - f + 1).toNat)) (zI (l - (l - f + 1))) (gT (st (st σ 25 7 0) 25 7 0) (fgh a u (l + 1 - (l - f + 1)) l))
    rw [show l + 1 - (l - f + 1) = f by omega]
    unfold wpS_X5_grantLeave_75 wpJ_X5_grantLeave_130
    refine br_lt (by omega) (by omega) (fun _ => ?_) (fun c => absurd c (by omega))
    by_cases d : fgh a u f l = -1
    · have e9 : gT (st (st σ 25 7 0) 25 7 0) (fgh a u f l) = st (st σ 25 7 0) 25 7 0 := if_pos d
      rw [e9, st_e]
      refine ⟨fun _ => ?_, fun c => absurd (by decide) c⟩
      rw [zl_29, zI_add, zI_nat (by omega) (by omega), show (29 + u).toNat = 29 + u.toNat by omega, show st (st σ 25 7 0) 25 7 0 26 = σ 26 from rfl, hG.lvq hW ⟨c1, by omega⟩]
      refine ⟨zI_in (by omega) (by omega) (by decide), m_bits hb.1 ?_⟩
      refine m_keepsW (σ := st (st σ 25 7 0) 25 7 0) hw ?_
      have e8 : (st (st (st σ 25 7 0) 25 7 0) 25 7 0) 26 (29 + u.toNat) = Int32.ofNat (lv a u) := hG.lvq hW ⟨c1, by omega⟩
      rw [e8, i_or]
      refine ⟨zI_in (by omega) (by omega) (by decide), zI_in (by omega) (by omega) (by decide), fun σ4 e4 => ⟨zI_in (by omega) (by omega) (by decide), ?_⟩⟩
      subst e4
      rw [st_e]
      exact m_bits hg (h0 ⟨c1, c2⟩ ⟨c3, c7, c6⟩ c8 d)
    · have e9 : gT (st (st σ 25 7 0) 25 7 0) (fgh a u f l) = st (st (st (st (st σ 25 7 0) 25 7 0) 25 8 4) 25 9 (zI (fgh a u f l))) 25 7 4 := if_neg d
      rw [e9, st_e]
      exact ⟨fun c => absurd c (by decide), fun _ => h5 ⟨c1, c2⟩ ⟨c3, c7, c6⟩ c8 d⟩
  · show wpS_X5_grantLeave_75 K B (zI u) (zI f) (Int32.ofNat (mkN (l + 1 - j).toNat j.toNat)) (zI (l - j)) (gT (st (st σ 25 7 0) 25 7 0) (fgh a u (l + 1 - j) l))
    have hr := held_rng a u (l - j)
    have hstep := fgh_step (a := a) (u := u) (x := l - j) (l := l) (by omega)
    rw [show l - j + 1 = l + 1 - j by omega] at hstep
    have hB2 := hB (by omega)
    rw [show l + 1 - (j + 1) = l - j by omega, show (j + 1).toNat = j.toNat + 1 by omega, mkN_top, hstep, show (l - j).toNat + 1 = (l + 1 - j).toNat by omega, show l - (j + 1) = l - j + -1 by omega] at hB2
    unfold wpS_X5_grantLeave_75 wpJ_X5_grantLeave_124
    refine br_lt (by omega) (by omega) (fun c => absurd c (by omega)) (fun _ v22 e22 => ?_)
    rw [zI_t (s := l - j) (by omega), sh_2 _ (by omega), i_or] at e22
    subst e22
    refine m_where (by rw [gT_26]; exact hG) hW ⟨c1, by omega⟩ (by omega) (br_ge0 (by omega) (fun c σ4 e4 => ?_) (fun c v31 e31 => ?_))
    · subst e4
      refine m_where (by rw [st_c _ _ _ (show (26 : Nat) ≠ 25 by decide), gT_26]; exact hG) hW ⟨c1, by omega⟩ (by omega) (fun σ5 e5 σ6 e6 v31 e31 => ?_)
      subst e6; subst e5
      rw [zl_m1, zI_add] at e31
      subst e31
      rw [gT_gT _ _ (by omega)]
      rw [if_pos (by omega)] at hB2
      exact hB2
    · rw [zl_m1, zI_add] at e31
      subst e31
      rw [if_neg (by omega)] at hB2
      exact hB2
end V1
theorem w_fillSlot {K : Int32 → Mem → Prop} {a : Nat → Int} {σ : Mem} (hG : RG a (σ 26)) (hW : WF a) (hw : σ 25 6 = 1) {s : Int} (hs : -2147483648 ≤ s ∧ s < 2147483648) (h1 : ¬ (0 ≤ s ∧ s < 28) → K 0 (st σ 25 7 1)) (h2 : (0 ≤ s ∧ s < 28) → s < a 3 → K 0 (st σ 25 7 2))
    (h0 : (0 ≤ s ∧ s < 28) → a 3 ≤ s → ∀ (x : Int32) (row : Nat → Int32), WF (fls (ky a) s (a 0).toNat a 0 0).1 → RG (fls (ky a) s (a 0).toNat a 0 0).1 row → K (zI (fls (ky a) s (a 0).toNat a 0 0).2) (va_up (st (st (st σ 25 7 0) 25 7 0) 25 16 x) 26 row)) : wp_X5_fillSlot (zI s) σ K := by
  have hc := hW.c
  unfold wp_X5_fillSlot wpJ_X5_fillSlot_27
  refine m_isSlot hs (fun c1 c2 => one_ne' ?_) (fun c => zero_eq' (m_f1 (n := 1) (by decide) (one_ne (h1 c))))
  rw [hG.2.2.1]
  refine br_le (by omega) (by omega) (fun c3 => m_f0 (zero_eq ?_)) (fun c => m_f1 (n := 2) (by decide) (one_ne (h2 ⟨c1, c2⟩ c)))
  refine m_keepsW (σ := st σ 25 7 0) hw ?_
  refine m_nextGate (σ := st (st σ 25 7 0) 25 7 0) (m := 0) hG hW (by decide) ⟨c1, c2⟩ ⟨(opm a s 0).toNat + 1, ?_⟩
  exact m_fillLoop (key := ky a) ⟨c1, c2⟩ (a 0).toNat a 0 0 0 (st (st σ 25 7 0) 25 7 0) hW hG (by decide) (by decide) (by rw [unm_0 hc.1.1]; omega) (by omega) (fun _ _ _ _ => rfl) (fun _ _ _ _ => rfl) (h0 ⟨c1, c2⟩ c3)
section V2
variable {a : Nat → Int} {σ : Mem} {K : Int32 → Mem → Prop}
theorem w_passSlots (hG : RG a (σ 26)) (hW : WF a) (hw : σ 25 6 = 1) {n : Int} (hn : -2147483648 ≤ n ∧ n < 2147483648) (h1 : ¬ (1 ≤ n ∧ n ≤ 28) → K 0 (st σ 25 7 1)) (h2 : (1 ≤ n ∧ n ≤ 28) → 28 < a 3 + n → K 0 (st σ 25 7 2))
    (h0 : (1 ≤ n ∧ n ≤ 28) → a 3 + n ≤ 28 → ∀ row : Nat → Int32, RG (psl n.toNat a 0).1 row → K (zI (psl n.toNat a 0).2) (va_up (st (st σ 25 7 0) 25 7 0) 26 row)) : wp_X5_passSlots (zI n) σ K := by
  have hc := hW.c
  unfold wp_X5_passSlots wpJ_X5_passSlots_33
  rw [zl_1, zl_28]
  refine m_in hn (by omega) (by omega) (fun c1 c2 => ?_) (fun c => zero_eq' (m_f1 (n := 1) (by decide) (one_ne (h1 c))))
  refine one_ne' ?_
  rw [hG.2.2.1, zI_sub]
  refine br_le hn (by omega) (fun c3 => m_f0 (zero_eq ?_)) (fun c3 => m_f1 (n := 2) (by decide) (one_ne (h2 ⟨c1, c2⟩ (by omega))))
  refine m_keepsW (σ := st σ 25 7 0) hw ?_
  exact ⟨n.toNat + 1, m_passL ⟨by omega, by omega⟩ n.toNat a 0 0 _ hW hG (by omega) (by omega) (by decide) (h0 ⟨c1, c2⟩ (by omega))⟩
end V2
