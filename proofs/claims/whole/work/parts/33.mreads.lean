/-! cells of memory -/
theorem st_e (σ : Mem) (c j : Nat) (v : Int32) : st σ c j v c j = v := by
  show va_up σ c (upd (σ c) j v) c j = v
  unfold va_up upd
  rw [if_pos rfl, if_pos rfl]
theorem st_j (σ : Mem) (c : Nat) {j i : Nat} (v : Int32) (h : i ≠ j) : st σ c j v c i = σ c i := by
  show va_up σ c (upd (σ c) j v) c i = σ c i
  unfold va_up upd
  rw [if_pos rfl, if_neg h]
theorem st_c (σ : Mem) {c d : Nat} (j : Nat) (v : Int32) (h : d ≠ c) : st σ c j v d = σ d := by
  show va_up σ c (upd (σ c) j v) d = σ d
  unfold va_up
  rw [if_neg h]
theorem st_st (σ : Mem) (c j : Nat) (v w : Int32) : st (st σ c j v) c j w = st σ c j w := by
  funext d i
  by_cases hd : d = c
  · subst hd
    by_cases hi : i = j
    · subst hi; rw [st_e, st_e]
    · rw [st_j _ _ _ hi, st_j _ _ _ hi, st_j _ _ _ hi]
  · rw [st_c _ _ _ hd, st_c _ _ _ hd, st_c _ _ _ hd]
theorem st_u (σ : Mem) (c : Nat) (f : Nat → Int32) (j : Nat) (v : Int32) : st (va_up σ c f) c j v = va_up σ c (upd f j v) := by
  funext d i
  show va_up (va_up σ c f) c (upd (va_up σ c f c) j v) d i = va_up σ c (upd f j v) d i
  unfold va_up
  by_cases hd : d = c
  · simp [hd]
  · simp [hd]
theorem up_s (σ : Mem) (c : Nat) : va_up σ c (σ c) = σ := by
  funext d
  unfold va_up
  by_cases h : d = c
  · rw [if_pos h, h]
  · rw [if_neg h]
theorem up_e (σ : Mem) (c : Nat) (f : Nat → Int32) : va_up σ c f c = f := by
  unfold va_up
  rw [if_pos rfl]
theorem st_up (σ : Mem) (c j : Nat) (v : Int32) : st σ c j v = va_up σ c (upd (σ c) j v) := rfl
/-! what the model answers, in the same words -/
section M0
variable {a : Nat → Int} {σ : Mem} {K : Int32 → Mem → Prop}
theorem m_in {v lo hi : Int} (h1 : -2147483648 ≤ v ∧ v < 2147483648) (h2 : -2147483648 ≤ lo ∧ lo < 2147483648) (h3 : -2147483648 ≤ hi ∧ hi < 2147483648) (ht : lo ≤ v → v ≤ hi → K 1 σ) (hf : ¬ (lo ≤ v ∧ v ≤ hi) → K 0 σ) : wp_X5_in (zI v) (zI lo) (zI hi) σ K := by
  unfold wp_X5_in
  refine br_lt h1 h2 (fun c => hf (by omega)) (fun c => ?_)
  exact br_lt h3 h1 (fun c2 => hf (by omega)) (fun c2 => ht c c2)
theorem m_isGate (hG : RG a (σ 26)) (hW : WF a) {k : Int} (h1 : -2147483648 ≤ k ∧ k < 2147483648) (ht : 0 ≤ k → k < a 0 → K 1 σ) (hf : ¬ (0 ≤ k ∧ k < a 0) → K 0 σ) : wp_X5_isGate (zI k) σ K := by
  have hc := hW.c
  unfold wp_X5_isGate
  rw [hG.1, zl_1, zI_sub, zl_0]
  exact m_in h1 (by decide) (by omega) (fun c1 c2 => ⟨rfl, ht c1 (by omega)⟩) (fun c => ⟨rfl, hf (by omega)⟩)
theorem m_isGuard (hG : RG a (σ 26)) (hW : WF a) {k : Int} (h1 : -2147483648 ≤ k ∧ k < 2147483648) (ht : 0 ≤ k → k < a 1 → K 1 σ) (hf : ¬ (0 ≤ k ∧ k < a 1) → K 0 σ) : wp_X5_isGuard (zI k) σ K := by
  have hc := hW.c
  unfold wp_X5_isGuard
  rw [hG.2.1, zl_1, zI_sub, zl_0]
  exact m_in h1 (by decide) (by omega) (fun c1 c2 => ⟨rfl, ht c1 (by omega)⟩) (fun c => ⟨rfl, hf (by omega)⟩)
theorem m_isSlot {k : Int} (h1 : -2147483648 ≤ k ∧ k < 2147483648) (ht : 0 ≤ k → k < 28 → K 1 σ) (hf : ¬ (0 ≤ k ∧ k < 28) → K 0 σ) : wp_X5_isSlot (zI k) σ K := by
  unfold wp_X5_isSlot
  rw [zl_27, zl_0]
  exact m_in h1 (by decide) (by decide) (fun c1 c2 => ⟨rfl, ht c1 (by omega)⟩) (fun c => ⟨rfl, hf (by omega)⟩)
theorem m_arePlace (hG : RG a (σ 26)) (hW : WF a) {k s : Int} (h1 : -2147483648 ≤ k ∧ k < 2147483648) (h2 : -2147483648 ≤ s ∧ s < 2147483648) (ht : (0 ≤ k ∧ k < a 0) → (0 ≤ s ∧ s < 28) → K 1 σ) (hf : ¬ ((0 ≤ k ∧ k < a 0) ∧ (0 ≤ s ∧ s < 28)) → K 0 σ) : wp_X5_arePlace (zI k) (zI s) σ K := by
  unfold wp_X5_arePlace
  refine m_isGate hG hW h1 (fun c1 c2 => one_ne ?_) (fun c => zero_eq (hf (fun h => c h.1)))
  exact m_isSlot h2 (fun c3 c4 => one_ne (ht ⟨c1, c2⟩ ⟨c3, c4⟩)) (fun c => zero_eq (hf (fun h => c h.2)))
theorem m_ranked (hG : RG a (σ 26)) {u : Int} (hu : 0 ≤ u ∧ u < 10) (h : K (zI (a (9 + u.toNat))) σ) : wp_X5_ranked (zI u) σ K := by
  unfold wp_X5_ranked
  rw [zl_9, zl_2, zI_mul, zI_add, zI_nat (by omega) (by omega), show (9 + 2 * u).toNat = 9 + 2 * u.toNat by omega, (hG.2.2.2.2.2.1 _ (by omega)).1]
  exact ⟨zI_in (by omega) (by omega) (by decide), h⟩
theorem m_who (hG : RG a (σ 26)) {k s : Int} (hk : 0 ≤ k ∧ k < 5) (hs : 0 ≤ s ∧ s < 28) (h : K (zI (du a k s)) σ) : wp_X5_who (zI k) (zI s) σ K := by
  unfold wp_X5_who
  rw [zl_39, zl_28, zI_mul, zI_add, zI_add, zI_nat (by omega) (by omega), show 39 + 28 * k + s = 39 + k * 28 + s by omega, hG.dq hk hs]
  exact ⟨zI_in (by omega) (by omega) (by decide), h⟩
theorem held_cut (hW : WF a) {u s : Int} (hu : 0 ≤ u) (hs : 0 ≤ s ∧ s < 28) : held a u s = fs (fun k => decide (du a k s = u)) (a 0) := by
  have hc := hW.c
  rw [held_in hu hs.1 hs.2]
  exact fs_cut hc.1.1 hc.1.2 (fun k h1 h2 => decide_eq_false (by rw [hW.out ⟨h1, h2⟩ hs]; omega))
theorem m_where (hG : RG a (σ 26)) (hW : WF a) {u s : Int} (hu : 0 ≤ u ∧ u < 1000) (hs : -1 ≤ s ∧ s ≤ 28) (h : K (zI (held a u s)) σ) : wp_X5_where (zI u) (zI s) σ K := by
  have hc := hW.c
  unfold wp_X5_where
  by_cases hi : 0 ≤ s ∧ s < 28
  · rw [held_cut hW hu.1 hi] at h
    refine lpI (F := wpF_X5_where_2 K) (fun k => (zI u, zI s, zI k, σ)) (fun k => 0 ≤ k ∧ fs (fun k => decide (du a k s = u)) k = -1) (a 0) (fun B hP => ?_) (fun k B hk hP hB => ?_) 0 (by omega) ⟨by decide, rfl⟩
    · show wpS_X5_where_2 K B (zI u) (zI s) (zI (a 0)) σ
      unfold wpS_X5_where_2
      rw [hG.1]
      rw [hP.2] at h
      exact br_le (by omega) (by omega) (fun _ => h) (fun c => absurd c (by omega))
    · show wpS_X5_where_2 K B (zI u) (zI s) (zI k) σ
      unfold wpS_X5_where_2
      rw [hG.1]
      refine br_le (by omega) (by omega) (fun c => absurd c (by omega)) (fun _ => ?_)
      refine m_isSlot (by omega) (fun _ _ => one_ne ?_) (fun c => absurd hi c)
      have hd := hW.dq (k := k) (s := s) ⟨hP.1, by omega⟩ hi
      refine m_who hG ⟨hP.1, by omega⟩ hi ?_
      refine br_ne (by omega) (by omega) (fun c => ?_) (fun c v hv => ?_)
      · rwa [fs_found _ hP.1 hk hP.2 (decide_eq_true c)] at h
      · subst hv
        rw [zl_1, zI_add]
        exact hB ⟨by omega, fs_no _ hP.1 hP.2 (decide_eq_false c)⟩
  · rw [held_out hi] at h
    refine ⟨1, ?_⟩
    show wpS_X5_where_2 K _ (zI u) (zI s) (0 : Int32) σ
    unfold wpS_X5_where_2
    rw [hG.1, zl_0]
    refine br_le (by omega) (by omega) (fun _ => h) (fun _ => ?_)
    exact m_isSlot (by omega) (fun c1 c2 => absurd ⟨c1, c2⟩ hi) (fun _ => zero_eq h)
theorem m_isOff (hG : RG a (σ 26)) {u s : Int} (hu : 0 ≤ u ∧ u < 10) (h : K (if off a u s = true then 1 else 0) σ) : wp_X5_isOff (zI u) (zI s) σ K := by
  unfold wp_X5_isOff
  rw [zl_29, zI_add, zI_nat (by omega) (by omega), show (29 + u).toNat = 29 + u.toNat by omega, (hG.2.2.2.2.2.1 _ (by omega)).2.2]
  refine ⟨zI_in (by omega) (by omega) (by decide), fun c => ?_, fun c => ?_⟩
  · rwa [if_neg (by unfold off; exact fun h => c (of_decide_eq_true h))] at h
  · rwa [if_pos (by unfold off; exact decide_eq_true c)] at h
theorem m_fails {v : Int} (h1 : -2147483648 ≤ v ∧ v < 2147483648) (h0 : v ≤ 0 → K 0 (st σ 25 7 (zI v))) (h2 : 0 < v → K 1 (st σ 25 7 (zI v))) : wp_X5_fails (zI v) σ K := by
  unfold wp_X5_fails
  intro σ1 e
  subst e
  exact br_le0 h1 h0 h2
theorem m_refuses (hG : RG a (σ 26)) (hW : WF a) {k s u : Int} (hk : 0 ≤ k ∧ k < a 0) (hs : 0 ≤ s ∧ s < 28) (hu : 0 ≤ u ∧ u < a 1) (h : K (zI (rsn a k s u)) (st σ 25 16 (zI (dtl a k s u)))) : wp_X5_refuses (zI k) (zI s) (zI u) σ K := by
  have hc := hW.c
  have hd := hW.dq (k := k) (s := s) ⟨hk.1, by omega⟩ hs
  have h4 := hW.2.2.2.2.1 k.toNat (by omega)
  have h9 := hW.2.2.2.2.2.1 u.toNat (by omega)
  unfold rsn dtl at h
  unfold wp_X5_refuses
  refine m_who hG ⟨hk.1, by omega⟩ hs ?_
  intro σ3 e3
  subst e3
  rw [st_e]
  refine br_lt0 (by omega) (fun c => ?_) (fun c => ?_)
  · simp only [if_neg (show ¬ (du a k s ≠ -1) by omega)] at h
    refine m_ranked (σ := st σ 25 16 _) hG ⟨hu.1, by omega⟩ ?_
    intro σ7 e7
    subst e7
    rw [st_st, st_e]
    refine ⟨by rw [zl_4, zI_add]; exact zI_in (by omega) (by omega) (by decide), ?_⟩
    rw [st_c _ _ _ (show (26 : Nat) ≠ 25 by decide), zl_4, zI_add, zI_nat (by omega) (by omega), show (4 + k).toNat = 4 + k.toNat by omega, hG.2.2.2.2.1 _ (by omega)]
    refine br_le (by omega) (by omega) (fun c => ?_) (fun c => ?_)
    · simp only [if_neg (show ¬ (a (9 + u.toNat) < a (4 + k.toNat)) by omega)] at h
      intro σ9 e9
      subst e9
      rw [st_st]
      refine m_isOff (σ := st σ 25 16 _) hG ⟨hu.1, by omega⟩ ?_
      by_cases c3 : off a u s = true
      · simp only [if_pos c3] at h
        rw [if_pos c3]
        exact one_ne h
      · simp only [if_neg c3] at h
        rw [if_neg c3]
        refine zero_eq ?_
        refine m_where (σ := st σ 25 16 _) hG hW ⟨hu.1, by omega⟩ (by omega) ?_
        intro σ15 e15
        subst e15
        rw [st_st, st_e]
        have r1 := held_rng a u s
        refine br_lt0 (by omega) (fun c => ?_) (fun c => ?_)
        · simp only [if_neg (show ¬ (held a u s ≠ -1) by omega)] at h
          rw [zl_1, zI_sub]
          refine m_where (σ := st σ 25 16 _) hG hW ⟨hu.1, by omega⟩ (by omega) ?_
          intro σ19 e19
          subst e19
          rw [st_st, st_e]
          have r2 := held_rng a u (s - 1)
          refine br_lt0 (by omega) (fun c => ?_) (fun c => ?_)
          · simp only [if_neg (show ¬ (held a u (s - 1) ≠ -1) by omega)] at h
            rw [zI_add]
            refine m_where (σ := st σ 25 16 _) hG hW ⟨hu.1, by omega⟩ (by omega) ?_
            intro σ23 e23
            subst e23
            rw [st_st, st_e]
            have r3 := held_rng a u (s + 1)
            refine br_lt0 (by omega) (fun c => ?_) (fun c => ?_)
            · simp only [if_neg (show ¬ (held a u (s + 1) ≠ -1) by omega)] at h
              exact h
            · simp only [if_pos (show held a u (s + 1) ≠ -1 by omega)] at h
              exact h
          · simp only [if_pos (show held a u (s - 1) ≠ -1 by omega)] at h
            exact h
        · simp only [if_pos (show held a u s ≠ -1 by omega)] at h
          exact h
    · simp only [if_pos (show a (9 + u.toNat) < a (4 + k.toNat) by omega)] at h
      exact h
  · simp only [if_pos (show du a k s ≠ -1 by omega)] at h
    exact h
theorem m_isRefused (hG : RG a (σ 26)) (hW : WF a) {k s u : Int} {p : Int32} (hk : 0 ≤ k ∧ k < a 0) (hs : 0 ≤ s ∧ s < 28) (hu : 0 ≤ u ∧ u < a 1) (h0 : rsn a k s u = 0 → K 0 (st σ 25 16 (zI (dtl a k s u)))) (h1 : rsn a k s u ≠ 0 → K 1 (st (st (st (st σ 25 16 (zI (dtl a k s u))) 25 8 (zI (rsn a k s u))) 25 9 (zI (dtl a k s u))) 25 7 p)) : wp_X5_isRefused (zI k) (zI s) (zI u) p σ K := by
  have hr := rsn_rng a k s u
  unfold wp_X5_isRefused
  refine m_refuses hG hW hk hs hu ?_
  refine br_n0 (by omega) h0 (fun c σ4 e4 σ5 e5 σ6 e6 => ?_)
  subst e6; subst e5; subst e4
  rw [st_j _ _ _ (show (16 : Nat) ≠ 8 by decide), st_e]
  exact h1 c
theorem dts_cut (hW : WF a) {u : Int} (hu : 0 ≤ u) : dts a u = cn (fun j => decide (a (39 + j).toNat = u)) (28 * a 0) := by
  have hc := hW.c
  refine cn_cut (by omega) (by omega) (fun k h1 h2 => decide_eq_false ?_)
  rw [hW.2.2.2.2.2.2.2.2 (39 + k).toNat (by omega) (by omega)]
  omega
theorem m_duties (hG : RG a (σ 26)) (hW : WF a) {u : Int} (hu : 0 ≤ u ∧ u < 1000) (h : K (zI (dts a u)) σ) : wp_X5_duties (zI u) σ K := by
  have hc := hW.c
  rw [dts_cut hW hu.1] at h
  unfold wp_X5_duties
  refine lpI (F := wpF_X5_duties_4 K) (fun k => (zI u, zI (cn (fun j => decide (a (39 + j).toNat = u)) k), zI k, σ)) (fun k => 0 ≤ k) (28 * a 0) (fun B hP => ?_) (fun k B hk hP hB => ?_) 0 (by omega) (by decide)
  · show wpS_X5_duties_4 K B (zI u) _ (zI (28 * a 0)) σ
    unfold wpS_X5_duties_4
    rw [hG.1, zl_28, zI_mul]
    exact br_le (by omega) (by omega) (fun _ => h) (fun c => absurd c (by omega))
  · show wpS_X5_duties_4 K B (zI u) (zI (cn _ k)) (zI k) σ
    unfold wpS_X5_duties_4 wpJ_X5_duties_36
    have hd := hW.2.2.2.2.2.2.2.1 (39 + k).toNat (by omega) (by omega)
    have hB := hB (by omega)
    rw [hG.1, zl_28, zI_mul]
    refine br_le (by omega) (by omega) (fun c => absurd c (by omega)) (fun _ => ?_)
    rw [zl_39, zI_add, zI_nat (by omega) (by omega), hG.2.2.2.2.2.2 _ (by omega) (by omega)]
    refine ⟨zI_in (by omega) (by omega) (by decide), br_ne (by omega) (by omega) (fun c v hv v2 hv2 => ?_) (fun c v hv v2 hv2 => ?_)⟩
    · subst hv; subst hv2
      rw [zl_1, zI_add, zI_add]
      rwa [cn_t _ hP (decide_eq_true c)] at hB
    · subst hv; subst hv2
      rw [zl_1, zl_0, zI_add, zI_add, Int.add_zero]
      rwa [cn_f _ hP (decide_eq_false c)] at hB
/-- all duties, by the row -/
def alM (a : Nat → Int) : Int := cn (fun j => decide (0 ≤ a (39 + j).toNat)) (28 * a 0)
theorem m_allDuties (hG : RG a (σ 26)) (hW : WF a) (h : K (zI (alM a)) σ) : wp_X5_allDuties σ K := by
  have hc := hW.c
  unfold wp_X5_allDuties
  refine lpI (F := wpF_X5_allDuties_4 K) (fun k => (zI (cn (fun j => decide (0 ≤ a (39 + j).toNat)) k), zI k, σ)) (fun k => 0 ≤ k) (28 * a 0) (fun B hP => ?_) (fun k B hk hP hB => ?_) 0 (by omega) (by decide)
  · show wpS_X5_allDuties_4 K B _ (zI (28 * a 0)) σ
    unfold wpS_X5_allDuties_4
    rw [hG.1, zl_28, zI_mul]
    exact br_le (by omega) (by omega) (fun _ => h) (fun c => absurd c (by omega))
  · show wpS_X5_allDuties_4 K B (zI (cn _ k)) (zI k) σ
    unfold wpS_X5_allDuties_4 wpJ_X5_allDuties_35
    have hd := hW.2.2.2.2.2.2.2.1 (39 + k).toNat (by omega) (by omega)
    have hB := hB (by omega)
    rw [hG.1, zl_28, zI_mul]
    refine br_le (by omega) (by omega) (fun c => absurd c (by omega)) (fun _ => ?_)
    rw [zl_39, zI_add, zI_nat (by omega) (by omega), hG.2.2.2.2.2.2 _ (by omega) (by omega)]
    refine ⟨zI_in (by omega) (by omega) (by decide), br_lt0 (by omega) (fun c v hv v2 hv2 => ?_) (fun c v hv v2 hv2 => ?_)⟩
    · subst hv; subst hv2
      rw [zl_1, zl_0, zI_add, zI_add, Int.add_zero]
      rwa [cn_f _ hP (decide_eq_false (by omega))] at hB
    · subst hv; subst hv2
      rw [zl_1, zI_add, zI_add]
      rwa [cn_t _ hP (decide_eq_true c)] at hB
theorem m_open (hG : RG a (σ 26)) (hW : WF a) {s : Int} (hs : 0 ≤ s ∧ s < 28) (h : K (zI (opn a s)) σ) : wp_X5_open (zI s) σ K := by
  have hc := hW.c
  unfold wp_X5_open
  refine lpI (F := wpF_X5_open_4 K) (fun k => (zI s, zI (cn (fun k => decide (du a k s = -1)) k), zI k, σ)) (fun k => 0 ≤ k) (a 0) (fun B hP => ?_) (fun k B hk hP hB => ?_) 0 (by omega) (by decide)
  · show wpS_X5_open_4 K B (zI s) _ (zI (a 0)) σ
    unfold wpS_X5_open_4
    rw [hG.1]
    exact br_le (by omega) (by omega) (fun _ => h) (fun c => absurd c (by omega))
  · show wpS_X5_open_4 K B (zI s) (zI (cn _ k)) (zI k) σ
    unfold wpS_X5_open_4 wpJ_X5_open_29
    rw [hG.1]
    refine br_le (by omega) (by omega) (fun c => absurd c (by omega)) (fun _ => ?_)
    have hd := hW.dq (k := k) (s := s) ⟨hP, by omega⟩ hs
    have hB := hB (by omega)
    refine m_who hG ⟨hP, by omega⟩ hs ?_
    refine br_ge0 (by omega) (fun c v hv v2 hv2 => ?_) (fun c v hv v2 hv2 => ?_)
    · subst hv; subst hv2
      rw [zl_1, zl_0, zI_add, zI_add, Int.add_zero]
      rwa [cn_f _ hP (decide_eq_false (by omega))] at hB
    · subst hv; subst hv2
      rw [zl_1, zI_add, zI_add]
      rwa [cn_t _ hP (decide_eq_true (by omega))] at hB
/-- open places from now on, slot by slot -/
def opF (a : Nat → Int) : Int := sm (fun i => opn a (a 3 + i)) (28 - a 3)
theorem m_openFromNow (hG : RG a (σ 26)) (hW : WF a) (h : K (zI (opF a)) (st σ 25 7 0)) : wp_X5_openFromNow σ K := by
  have hc := hW.c
  unfold wp_X5_openFromNow
  intro σ1 e1 v2 e2
  subst e1
  have e3 : v2 = zI (a 3) := by rw [e2]; exact hG.2.2.1
  subst e3
  have h9 := lpI (F := wpF_X5_openFromNow_14 K) (fun i => (zI (sm (fun i => opn a (a 3 + i)) i), zI (a 3 + i), st σ 25 7 0)) (fun k => 0 ≤ k) (28 - a 3) (fun B hP => ?_) (fun k B hk hP hB => ?_) 0 (by omega) (by decide)
  · rwa [Int.add_zero] at h9
  · show wpS_X5_openFromNow_14 K B _ (zI (a 3 + (28 - a 3))) (st σ 25 7 0)
    unfold wpS_X5_openFromNow_14
    rw [zl_28]
    exact br_le (by omega) (by omega) (fun _ => h) (fun c => absurd c (by omega))
  · show wpS_X5_openFromNow_14 K B (zI (sm _ k)) (zI (a 3 + k)) (st σ 25 7 0)
    unfold wpS_X5_openFromNow_14
    rw [zl_28]
    refine br_le (by omega) (by omega) (fun c => absurd c (by omega)) (fun _ => ?_)
    refine m_open (σ := st σ 25 7 0) hG hW (by omega) ?_
    intro v hv v2 hv2
    subst hv; subst hv2
    have hB := hB (by omega)
    rw [zl_1, zI_add, zI_add]
    rwa [sm_s _ hP, show a 3 + (k + 1) = a 3 + k + 1 by omega] at hB
theorem m_following (hG : RG a (σ 26)) (hW : WF a) {u : Int} (hu : 0 ≤ u ∧ u < 1000) (h : K (zI (nxt a u)) σ) : wp_X5_following (zI u) σ K := by
  have hc := hW.c
  unfold wp_X5_following
  intro v1 e1
  rw [hG.2.2.1] at e1
  subst e1
  have h9 := lpI (F := wpF_X5_following_7 K) (fun i => (zI u, zI (a 3 + i), σ)) (fun k => 0 ≤ k ∧ fs (fun i => decide (held a u (a 3 + i) ≠ -1)) k = -1) (28 - a 3) (fun B hP => ?_) (fun k B hk hP hB => ?_) 0 (by omega) ⟨by decide, rfl⟩
  · rwa [Int.add_zero] at h9
  · show wpS_X5_following_7 K B (zI u) (zI (a 3 + (28 - a 3))) σ
    have e : nxt a u = -1 := if_pos hP.2
    rw [e] at h
    unfold wpS_X5_following_7
    rw [zl_28]
    exact br_le (by omega) (by omega) (fun _ => h) (fun c => absurd c (by omega))
  · show wpS_X5_following_7 K B (zI u) (zI (a 3 + k)) σ
    unfold wpS_X5_following_7
    rw [zl_28]
    refine br_le (by omega) (by omega) (fun c => absurd c (by omega)) (fun _ => ?_)
    refine m_where hG hW hu (by omega) ?_
    have hr := held_rng a u (a 3 + k)
    refine br_lt0 (by omega) (fun c v hv => ?_) (fun c => ?_)
    · subst hv
      rw [zl_1, zI_add]
      have := hB ⟨by omega, fs_no _ hP.1 hP.2 (decide_eq_false (by omega))⟩
      rwa [show a 3 + (k + 1) = a 3 + k + 1 by omega] at this
    · have e : nxi a u = k := fs_found _ hP.1 hk hP.2 (decide_eq_true (by omega))
      have e2 : nxt a u = a 3 + k := by
        unfold nxt
        rw [e, if_neg (by omega)]
      rwa [e2] at h
end M0
