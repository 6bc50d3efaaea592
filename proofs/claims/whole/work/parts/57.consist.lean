/-! the most duties of a slot, and whether all agrees -/
theorem o_19 {σ : Mem} (hI : Inv σ) (a1 a2 a3 a4 : Int32) : wplc_19 a1 a2 a3 a4 σ Inv := by
  obtain ⟨⟨a, hW, hR, hG⟩, hX⟩ := hI
  obtain ⟨s, rfl, hs⟩ := zI_ex a1
  unfold wplc_19 wp_L_mostDuties wp_X4_mostDuties wp_X4_throwUnlessSlot wp_X5_mostDuties
  refine q_isSlot hs.1 hs.2 (fun c1 c2 => one_ne' ?_) (fun c => zero_eq' ⟨rfl, ?_⟩)
  · refine q_most hR hW ⟨c1, c2⟩ (fun y f g σ4 e => ?_)
    subst e
    refine m_most (σ := st (va_up (st (va_up σ 16 g) 15 2 y) 17 f) 34 0 _) hG hW hs (fun h => absurd ⟨c1, c2⟩ h) (fun _ z row => ?_)
    exact fin_i rfl (fun _ => rfl) ⟨⟨a, hW, hR, hG⟩, hX⟩
  · exact m_most hG hW hs (fun _ => fin_i rfl (fun c => absurd c (by decide)) ⟨⟨a, hW, hR, hG⟩, hX⟩) (fun h => absurd h c)
theorem o_20 {σ : Mem} (hI : Inv σ) (a1 a2 a3 a4 : Int32) : wplc_20 a1 a2 a3 a4 σ Inv := by
  obtain ⟨⟨a, hW, hR, hG⟩, hX⟩ := hI
  obtain ⟨s, rfl, hs⟩ := zI_ex a1
  unfold wplc_20 wp_L_mostDutiesBySets wp_X4_mostDutiesBySets wp_X4_throwUnlessSlot wp_X5_mostDutiesBySets
  refine q_isSlot hs.1 hs.2 (fun c1 c2 => one_ne' ?_) (fun c => zero_eq' ⟨rfl, ?_⟩)
  · refine q_mostS hR hW ⟨c1, c2⟩ hX.2.2.2.2.2.2.2.2 (fun f g h18 σ4 e => ?_)
    subst e
    refine m_most (σ := st (va_up (va_up σ 16 g) 18 f) 34 0 _) hG hW hs (fun h => absurd ⟨c1, c2⟩ h) (fun _ z row => ?_)
    exact fin_i rfl (fun _ => rfl) ⟨⟨a, hW, hR, hG⟩, hX.1, hX.2.1, hX.2.2.1, hX.2.2.2.1, hX.2.2.2.2.1, hX.2.2.2.2.2.1, hX.2.2.2.2.2.2.1, hX.2.2.2.2.2.2.2.1, h18⟩
  · exact m_most hG hW hs (fun _ => fin_i rfl (fun c => absurd c (by decide)) ⟨⟨a, hW, hR, hG⟩, hX⟩) (fun h => absurd h c)
def Fr (σ σ' : Mem) : Prop := (∀ c, c ≠ 15 → c ≠ 16 → c ≠ 17 → c ≠ 18 → σ' c = σ c) ∧ σ' 18 0 = 0
theorem Fr_t {σ σ' σ'' : Mem} (h : Fr σ σ') (h2 : Fr σ' σ'') : Fr σ σ'' := ⟨fun c c1 c2 c3 c4 => by rw [h2.1 c c1 c2 c3 c4, h.1 c c1 c2 c3 c4], h2.2⟩
theorem Fr_Rest {σ σ' : Mem} (h : Fr σ σ') (hX : Rest σ) : Rest σ' := by
  have e : ∀ c, c ≠ 15 → c ≠ 16 → c ≠ 17 → c ≠ 18 → σ' c = σ c := h.1
  have er : ring σ' = ring σ := by
    funext k
    unfold ring
    rw [e 6 (by decide) (by decide) (by decide) (by decide), e 7 (by decide) (by decide) (by decide) (by decide), e 8 (by decide) (by decide) (by decide) (by decide), e 9 (by decide) (by decide) (by decide) (by decide), e 10 (by decide) (by decide) (by decide) (by decide), e 11 (by decide) (by decide) (by decide) (by decide), e 12 (by decide) (by decide) (by decide) (by decide), e 13 (by decide) (by decide) (by decide) (by decide), e 14 (by decide) (by decide) (by decide) (by decide)]
  unfold Rest
  rw [er, e 4 (by decide) (by decide) (by decide) (by decide), e 25 (by decide) (by decide) (by decide) (by decide), e 27 (by decide) (by decide) (by decide) (by decide), e 0 (by decide) (by decide) (by decide) (by decide), e 23 (by decide) (by decide) (by decide) (by decide), e 28 (by decide) (by decide) (by decide) (by decide), e 24 (by decide) (by decide) (by decide) (by decide), e 31 (by decide) (by decide) (by decide) (by decide), e 19 (by decide) (by decide) (by decide) (by decide), e 20 (by decide) (by decide) (by decide) (by decide), e 30 (by decide) (by decide) (by decide) (by decide)]
  exact ⟨hX.1, hX.2.1, hX.2.2.1, hX.2.2.2.1, hX.2.2.2.2.1, hX.2.2.2.2.2.1, hX.2.2.2.2.2.2.1, hX.2.2.2.2.2.2.2.1, h.2⟩
theorem up_c (σ : Mem) {c d : Nat} (f : Nat → Int32) (h : d ≠ c) : va_up σ c f d = σ d := by
  unfold va_up
  rw [if_neg h]
theorem Fr_p (σ : Mem) (y : Int32) (f g : Nat → Int32) (h18 : σ 18 0 = 0) : Fr σ (va_up (st (va_up σ 16 g) 15 2 y) 17 f) := ⟨fun c c1 c2 c3 _ => by rw [up_c _ _ c3, st_c _ _ _ c1, up_c _ _ c2], h18⟩
theorem Fr_s (σ : Mem) (f g : Nat → Int32) (h18 : f 0 = 0) : Fr σ (va_up (va_up σ 16 g) 18 f) := ⟨fun c _ c2 _ c4 => by rw [up_c _ _ c4, up_c _ _ c2], h18⟩
section C0
variable {a : Nat → Int}
theorem rests_b (a : Nat → Int) : rests a = 0 ∨ rests a = 1 := by
  unfold rests
  split
  · exact Or.inr rfl
  · exact Or.inl rfl
theorem q_consL {K : Int32 → Mem → Prop} (hW : WF a) : ∀ (r : Nat) (i : Int) (σ : Mem), i + r = 28 → 0 ≤ i → RC a (σ 2) → σ 18 0 = 0 → (∀ σ', Fr σ σ' → K (zI (rests a)) σ') → wlp (wpF_X4_isConsistent_15 K) (r + 1) (zI i, σ)
  | 0, i, σ, hi, h0, hR, h18, h => by
    show wpS_X4_isConsistent_15 K _ (zI i) σ
    unfold wpS_X4_isConsistent_15
    rw [zl_28]
    refine br_le (by omega) (by omega) (fun _ => q_allRest hR hW ⟨?_, h σ ⟨fun _ _ _ _ _ => rfl, h18⟩⟩) (fun c => absurd c (by omega))
    rcases rests_b a with e | e <;> rw [e] <;> rfl
  | r + 1, i, σ, hi, h0, hR, h18, h => by
    show wpS_X4_isConsistent_15 K (wlp (wpF_X4_isConsistent_15 K) (r + 1)) (zI i) σ
    unfold wpS_X4_isConsistent_15 wp_X4_mostDuties_q wp_X4_mostDutiesBySets_q wp_X4_throwUnlessSlot_q
    rw [zl_28]
    refine br_le (by omega) (by omega) (fun c => absurd c (by omega)) (fun _ => ?_)
    refine q_isSlot (by omega) (by omega) (fun c1 c2 => one_ne' ?_) (fun c => absurd (⟨by omega, by omega⟩ : 0 ≤ i ∧ i < 28) c)
    refine q_most hR hW ⟨h0, by omega⟩ (fun y f g => ?_)
    refine q_isSlot (by omega) (by omega) (fun c1 c2 => one_ne' ?_) (fun c => absurd (⟨by omega, by omega⟩ : 0 ≤ i ∧ i < 28) c)
    refine q_mostS (σ := va_up (st (va_up σ 16 g) 15 2 y) 17 f) hR hW ⟨h0, by omega⟩ h18 (fun f2 g2 h182 => ⟨fun _ v14 e14 => ?_, fun c => absurd rfl c⟩)
    rw [zl_1, zI_add] at e14
    subst e14
    exact q_consL hW r (i + 1) _ (by omega) (by omega) hR h182 (fun σ' hF => h σ' (Fr_t (Fr_t (Fr_p σ y f g h18) (Fr_s _ f2 g2 h182)) hF))
theorem q_isConsistent {K : Int32 → Mem → Prop} {σ : Mem} (hR : RC a (σ 2)) (hW : WF a) (h18 : σ 18 0 = 0) (h : ∀ σ', Fr σ σ' → K (zI (rests a)) σ') : wp_X4_isConsistent σ K := by
  unfold wp_X4_isConsistent
  refine q_openPlaces hR hW (q_openPlacesBySlots hR hW ⟨fun _ => ⟨29, ?_⟩, fun c => absurd rfl c⟩)
  exact q_consL hW 28 0 σ (by decide) (by decide) hR h18 h
theorem m_isConsistent {K : Int32 → Mem → Prop} {σ : Mem} (hG : RG a (σ 26)) (hW : WF a) (h : K (zI (rests a)) (st σ 25 7 0)) : wp_X5_isConsistent σ K := by
  have hc := hW.c
  unfold wp_X5_isConsistent
  intro σ1 e1
  subst e1
  have h9 := lpI (F := wpF_X5_isConsistent_7 K) (fun i => (zI i, st σ 25 7 0)) (fun i => 0 ≤ i ∧ fs (fun u => rst a u) i = -1) (a 1) (fun B hP => ?_) (fun i B hi hP hB => ?_) 0 (by omega) ⟨by decide, rfl⟩
  · exact h9
  · show wpS_X5_isConsistent_7 K B (zI (a 1)) (st σ 25 7 0)
    unfold wpS_X5_isConsistent_7
    rw [show st σ 25 7 0 26 = σ 26 from rfl, hG.2.1]
    refine br_le (by omega) (by omega) (fun _ => ?_) (fun c => absurd c (by omega))
    rw [show rests a = 1 from if_pos hP.2] at h
    exact h
  · show wpS_X5_isConsistent_7 K B (zI i) (st σ 25 7 0)
    unfold wpS_X5_isConsistent_7
    rw [show st σ 25 7 0 26 = σ 26 from rfl, hG.2.1]
    refine br_le (by omega) (by omega) (fun c => absurd c (by omega)) (fun _ => ?_)
    have h8 := lpI (F := wpF_X5_isConsistent_19 K B) (fun j => (zI i, zI (1 + j), st σ 25 7 0)) (fun j => 0 ≤ j ∧ fs (fun j => two a i (1 + j)) j = -1) 27 (fun B2 hP2 => ?_) (fun j B2 hj hP2 hB2 => ?_) 0 (by decide) ⟨by decide, rfl⟩
    · exact h8
    · show wpS_X5_isConsistent_19 K B B2 (zI i) (zI 28) (st σ 25 7 0)
      unfold wpS_X5_isConsistent_19 wpJ_X5_isConsistent_53
      refine ⟨fun _ v4 e4 => ?_, fun c => absurd (by decide) c⟩
      rw [zl_1, zI_add] at e4
      subst e4
      exact hB ⟨by omega, fs_no _ hP.1 hP.2 (by
        unfold rst
        exact decide_eq_false (fun x => x hP2.2))⟩
    · show wpS_X5_isConsistent_19 K B B2 (zI i) (zI (1 + j)) (st σ 25 7 0)
      have hr1 := held_rng a i (1 + j)
      have hr2 := held_rng a i (1 + j - 1)
      have hno : two a i (1 + j) = false → B2 (zI i, zI (1 + (j + 1)), st σ 25 7 0) := fun x => hB2 ⟨by omega, fs_no _ hP2.1 hP2.2 x⟩
      unfold wpS_X5_isConsistent_19 wpJ_X5_isConsistent_47
      rw [zl_28]
      refine br_le (by omega) (by omega) (fun c => absurd c (by omega)) (fun _ => ?_)
      refine m_where (σ := st σ 25 7 0) hG hW ⟨hP.1, by omega⟩ (by omega) (br_lt0 (by omega) (fun c v8 e8 => ?_) (fun c => ?_))
      · rw [zl_1, zI_add, show 1 + j + 1 = 1 + (j + 1) by omega] at e8
        subst e8
        exact hno (by unfold two; rw [decide_eq_false (show ¬ held a i (1 + j) ≠ -1 by omega), Bool.and_false])
      · rw [zl_1, zI_sub]
        refine m_where (σ := st σ 25 7 0) hG hW ⟨hP.1, by omega⟩ (by omega) (br_lt0 (by omega) (fun c2 v8 e8 => ?_) (fun c2 => ?_))
        · rw [zI_add, show 1 + j + 1 = 1 + (j + 1) by omega] at e8
          subst e8
          exact hno (by unfold two; rw [decide_eq_false (show ¬ held a i (1 + j - 1) ≠ -1 by omega), Bool.false_and])
        · have e2 : two a i (1 + j) = true := by
            unfold two
            rw [decide_eq_true (show held a i (1 + j) ≠ -1 by omega), decide_eq_true (show held a i (1 + j - 1) ≠ -1 by omega)]
            rfl
          have e3 : fs (fun j => two a i (1 + j)) 27 = j := fs_found _ hP2.1 hj hP2.2 e2
          have e4 : rst a i = true := by
            unfold rst
            rw [e3]
            exact decide_eq_true (by omega)
          have e5 : fs (fun u => rst a u) (a 1) = i := fs_found _ hP.1 hi hP.2 e4
          rw [show rests a = 0 from if_neg (by rw [e5]; omega)] at h
          exact h
end C0
theorem o_40 {σ : Mem} (hI : Inv σ) (a1 a2 a3 a4 : Int32) : wplc_40 a1 a2 a3 a4 σ Inv := by
  obtain ⟨⟨a, hW, hR, hG⟩, hX⟩ := hI
  unfold wplc_40
  refine q_isConsistent hR hW hX.2.2.2.2.2.2.2.2 (fun σ' hF => ?_)
  have e2 := hF.1 2 (by decide) (by decide) (by decide) (by decide)
  have e26 := hF.1 26 (by decide) (by decide) (by decide) (by decide)
  have hR2 : RC a (σ' 2) := by rw [e2]; exact hR
  have hG2 : RG a (σ' 26) := by rw [e26]; exact hG
  have hX2 := Fr_Rest hF hX
  exact m_isConsistent hG2 hW (fin_e rfl ⟨⟨a, hW, hR2, hG2⟩, hX2⟩)
