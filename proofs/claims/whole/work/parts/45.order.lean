/-! the order of the guards by their duties -/
theorem cn_mono (p : Int → Bool) {i n : Int} (h0 : 0 ≤ i) (h : i ≤ n) : cn p i ≤ cn p n := by
  have := sm_ind (P := fun d => cn p i ≤ cn p (i + d)) (by rw [Int.add_zero]; exact Int.le_refl _) (fun d hd ih => by
    rw [show i + (d + 1) = i + d + 1 by omega, cn_s p (by omega)]
    split <;> omega) (n := n - i) (by omega)
  rwa [show i + (n - i) = n by omega] at this
theorem cn_ge1 {p : Int → Bool} {j n : Int} (h0 : 0 ≤ j) (h : j < n) (hp : p j = true) : 1 ≤ cn p n := by
  have h1 := cn_mono p (i := j + 1) (n := n) (by omega) (by omega)
  have h2 := cn_rng p h0
  rw [cn_t p h0 hp] at h1
  omega
theorem cn_lt {p : Int → Bool} {j n : Int} (h0 : 0 ≤ j) (h : j < n) (hp : p j = false) : cn p n < n := by
  have h1 := cn_not p (n := n) (by omega)
  have h2 := cn_ge1 (p := fun k => !(p k)) h0 h (by show (!(p j)) = true; rw [hp]; rfl)
  omega
theorem cn_pos {p : Int → Bool} {n : Int} (h0 : 0 ≤ n) (h : 1 ≤ cn p n) : ∃ j, 0 ≤ j ∧ j < n ∧ p j = true := by
  by_cases c : fs p n = -1
  · have := cn_cut (p := p) (m := 0) (by decide) h0 (fun k h1 h2 => fs_none p c k h1 h2)
    rw [this, cn_0] at h
    omega
  · exact ⟨_, fs_is p h0 c⟩
theorem cn_le1 {p : Int → Bool} {n : Int} (h0 : 0 ≤ n) (h : ∀ i j, 0 ≤ i → i < n → 0 ≤ j → j < n → p i = true → p j = true → i = j) : cn p n ≤ 1 := by
  have := sm_ind (P := fun d => d ≤ n → cn p d ≤ 1) (fun _ => by rw [cn_0]; decide) (fun d hd ih hn => by
    have i1 := ih (by omega)
    rw [cn_s p hd]
    by_cases c : p d = true
    · rw [if_pos c]
      by_cases z : 1 ≤ cn p d
      · obtain ⟨j, j1, j2, j3⟩ := cn_pos hd z
        have := h j d j1 (by omega) hd (by omega) j3 c
        omega
      · omega
    · rw [if_neg c]; omega) h0
  exact this (Int.le_refl _)
theorem cn_or {p q r : Int → Bool} {n : Int} (h0 : 0 ≤ n) (h : ∀ i, 0 ≤ i → i < n → (r i = true ↔ (p i = true ∨ q i = true)) ∧ ¬ (p i = true ∧ q i = true)) : cn r n = cn p n + cn q n := by
  have := sm_ind (P := fun d => d ≤ n → cn r d = cn p d + cn q d) (fun _ => rfl) (fun d hd ih hn => by
    have i1 := ih (by omega)
    have := h d hd (by omega)
    rw [cn_s r hd, cn_s p hd, cn_s q hd]
    by_cases c1 : p d = true
    · by_cases c2 : q d = true
      · exact absurd ⟨c1, c2⟩ this.2
      · rw [if_pos c1, if_neg c2, if_pos (this.1.2 (Or.inl c1))]; omega
    · by_cases c2 : q d = true
      · rw [if_neg c1, if_pos c2, if_pos (this.1.2 (Or.inr c2))]; omega
      · rw [if_neg c1, if_neg c2, if_neg (fun c => (this.1.1 c).elim c1 c2)]; omega) h0
  exact this (Int.le_refl _)
/-- among keys that differ, each number below the number of keys is the place of one -/
theorem ord_ex (f : Int → Int) {G n : Int} (hn : 0 ≤ n ∧ n < G) (h0 : ∀ i, 0 ≤ i → i < G → 0 ≤ f i) (hi : ∀ i j, 0 ≤ i → i < G → 0 ≤ j → j < G → f i = f j → i = j) {T : Int} (hT : 0 ≤ T) (hTG : ∀ i, 0 ≤ i → i < G → f i < T) : ∃ u, 0 ≤ u ∧ u < G ∧ cn (fun v => decide (f v < f u)) G = n := by
  have key : n + 1 ≤ cn (fun v => decide (f v < T)) G → ∃ u, 0 ≤ u ∧ u < G ∧ cn (fun v => decide (f v < f u)) G = n := by
    refine sm_ind (P := fun T => n + 1 ≤ cn (fun v => decide (f v < T)) G → ∃ u, 0 ≤ u ∧ u < G ∧ cn (fun v => decide (f v < f u)) G = n) (fun h => ?_) (fun t ht ih h => ?_) hT
    · obtain ⟨j, j1, j2, j3⟩ := cn_pos (by omega) (show 1 ≤ cn (fun v => decide (f v < 0)) G by omega)
      have := h0 j j1 j2
      have := of_decide_eq_true j3
      omega
    · by_cases c : n + 1 ≤ cn (fun v => decide (f v < t)) G
      · exact ih c
      · have e := cn_or (p := fun v => decide (f v < t)) (q := fun v => decide (f v = t)) (r := fun v => decide (f v < t + 1)) (n := G) (by omega) (fun i i1 i2 => by
          simp only [decide_eq_true_iff]
          omega)
        have l1 := cn_le1 (p := fun v => decide (f v = t)) (n := G) (by omega) (fun i j i1 i2 j1 j2 hp hq => hi i j i1 i2 j1 j2 (by rw [of_decide_eq_true hp, of_decide_eq_true hq]))
        have l2 := cn_rng (fun v => decide (f v = t)) (k := G) (by omega)
        obtain ⟨j, j1, j2, j3⟩ := cn_pos (p := fun v => decide (f v = t)) (n := G) (by omega) (by omega)
        have e3 : f j = t := of_decide_eq_true j3
        exact ⟨j, j1, j2, by rw [e3]; omega⟩
  refine key ?_
  have e : cn (fun v => decide (f v < T)) G = G := by
    have h1 := cn_not (fun v => decide (f v < T)) (n := G) (by omega)
    have h2 := cn_cut (p := fun k => !(decide (f k < T))) (m := 0) (n := G) (by decide) (by omega) (fun k k1 k2 => by
      show (!(decide (f k < T))) = false
      rw [decide_eq_true (hTG k k1 k2)]; rfl)
    rw [h2] at h1
    have h3 : cn (fun k => !(decide (f k < T))) 0 = 0 := rfl
    omega
  omega
section O0
variable {a : Nat → Int} {σ : Mem}
def rk (a : Nat → Int) (u : Int) : Int := if u < a 1 then a (9 + u.toNat) else 0
def ky (a : Nat → Int) (u : Int) : Int := (dts a u * 10 + rk a u) * 10 + u
theorem rk_rng (hW : WF a) {u : Int} (hu : 0 ≤ u ∧ u < 10) : 0 ≤ rk a u ∧ rk a u ≤ 9 := by
  have := hW.2.2.2.2.2.1 u.toNat (by omega)
  unfold rk
  split <;> omega
theorem ky_rng (hW : WF a) {u : Int} (hu : 0 ≤ u ∧ u < 10) : 0 ≤ ky a u ∧ ky a u < 15000 := by
  have h1 := rk_rng hW hu
  have h2 := dts_rng a u
  unfold ky
  omega
theorem ky_inj (hW : WF a) {u v : Int} (hu : 0 ≤ u ∧ u < 10) (hv : 0 ≤ v ∧ v < 10) (h : ky a u = ky a v) : u = v := by
  unfold ky at h
  omega
theorem q_rank0 {K : Int32 → Mem → Prop} (hR : RC a (σ 2)) (hW : WF a) {u : Int} (hu : 0 ≤ u ∧ u < 10) (h : K (zI (rk a u)) σ) : wp_X2_rankOf (zI u) σ K := by
  by_cases c : u < a 1
  · rw [show rk a u = a (9 + u.toNat) from if_pos c] at h
    exact q_rankOf hR hW hu.1 c h
  · rw [show rk a u = 0 from if_neg c] at h
    unfold wp_X2_rankOf
    exact q_isGuard hR hW (by omega) (by omega) (fun _ c2 => absurd c2 c) (fun _ => zero_eq h)
def kyf (a : Nat → Int) (f : Nat → Int32) (n : Int) : Nat → Int32 := fun j => if (j : Int) < n then zI (ky a j) else f j
theorem q_computeOrderKeys {K : Mem → Prop} (hR : RC a (σ 2)) (hW : WF a) (h : K (va_up σ 3 (kyf a (σ 3) 10))) : wp_X2_computeOrderKeys σ K := by
  have hc := hW.c
  unfold wp_X2_computeOrderKeys
  have h9 := lpI (F := wpF_X2_computeOrderKeys_2 K) (fun i => (zI i, va_up σ 3 (kyf a (σ 3) i))) (fun i => 0 ≤ i) 10 (fun B hP => ?_) (fun i B hi hP hB => ?_) 0 (by decide) (by decide)
  · have e0 : kyf a (σ 3) 0 = σ 3 := by
      funext j
      exact if_neg (by omega)
    rw [e0, up_s] at h9
    exact h9
  · show wpS_X2_computeOrderKeys_2 K B (zI 10) (va_up σ 3 (kyf a (σ 3) 10))
    exact ⟨fun _ => h, fun c => absurd (by decide) c⟩
  · show wpS_X2_computeOrderKeys_2 K B (zI i) (va_up σ 3 (kyf a (σ 3) i))
    have d := dts_rng a i
    have r := rk_rng hW (u := i) ⟨hP, hi⟩
    unfold wpS_X2_computeOrderKeys_2
    rw [zl_10]
    refine br_le (by omega) (by omega) (fun c => absurd c (by omega)) (fun _ => ?_)
    refine q_dutyTotal (σ := va_up σ 3 (kyf a (σ 3) i)) hR hW (by omega) ?_
    refine q_rank0 (σ := va_up σ 3 (kyf a (σ 3) i)) hR hW ⟨hP, hi⟩ ?_
    refine ⟨zI_in (by omega) (by omega) (by decide), fun σ6 e v7 e7 => ?_⟩
    rw [zI_nat (by omega) (by omega), zI_mul, zI_add, zI_mul, zI_add, st_u] at e
    rw [zl_1, zI_add] at e7
    subst e7; subst e
    have e8 : upd (kyf a (σ 3) i) i.toNat (zI ((dts a i * 10 + rk a i) * 10 + i)) = kyf a (σ 3) (i + 1) := by
      funext j
      unfold upd kyf
      by_cases c : j = i.toNat
      · rw [if_pos c, if_pos (by omega), show ((j : Nat) : Int) = i by omega]
        rfl
      · rw [if_neg c]
        by_cases c2 : (j : Int) < i
        · rw [if_pos c2, if_pos (by omega)]
        · rw [if_neg c2, if_neg (by omega)]
    rw [e8]
    exact hB (by omega)
theorem q_guardsBefore {K : Int32 → Mem → Prop} (hR : RC a (σ 2)) (hW : WF a) (hK : ∀ j : Nat, j < 10 → σ 3 j = zI (ky a j)) {t : Int} (ht : 0 ≤ t ∧ t < 15000) (h : K (zI (cn (fun v => decide (ky a v < t)) (a 1))) σ) : wp_X2_guardsBefore (zI t) σ K := by
  have hc := hW.c
  unfold wp_X2_guardsBefore
  have h9 := lpI (F := wpF_X2_guardsBefore_4 K) (fun i => (zI t, zI (cn (fun v => decide (ky a v < t)) i), zI i, σ)) (fun i => 0 ≤ i) (a 1) (fun B hP => ?_) (fun i B hi hP hB => ?_) 0 (by omega) (by decide)
  · exact h9
  · show wpS_X2_guardsBefore_4 K B (zI t) (zI (cn (fun v => decide (ky a v < t)) (a 1))) (zI (a 1)) σ
    unfold wpS_X2_guardsBefore_4
    rw [zl_10]
    refine br_le (by omega) (by omega) (fun _ => h) (fun c => q_guards hR ?_)
    exact br_le (by omega) (by omega) (fun _ => h) (fun c => absurd c (by omega))
  · show wpS_X2_guardsBefore_4 K B (zI t) (zI (cn (fun v => decide (ky a v < t)) i)) (zI i) σ
    have hk := ky_rng hW (u := i) ⟨hP, by omega⟩
    have hB2 := hB (by omega)
    unfold wpS_X2_guardsBefore_4 wpJ_X2_guardsBefore_31
    rw [zl_10]
    refine br_le (by omega) (by omega) (fun c => absurd c (by omega)) (fun c => q_guards hR ?_)
    refine br_le (by omega) (by omega) (fun c => absurd c (by omega)) (fun c => ?_)
    rw [zI_nat (by omega) (by omega), hK _ (by omega), show ((i.toNat : Nat) : Int) = i by omega]
    refine ⟨zI_in (by omega) (by omega) (by decide), br_le (by omega) (by omega) (fun c2 v6 e6 => ?_) (fun c2 v7 e7 v6 e6 => ?_)⟩
    · rw [zl_1, zI_add] at e6
      subst e6
      rw [cn_f _ hP (decide_eq_false (by omega))] at hB2
      exact hB2
    · rw [zl_1, zI_add] at e6 e7
      subst e6; subst e7
      rw [cn_t _ hP (decide_eq_true c2)] at hB2
      exact hB2
def bef (a : Nat → Int) (u : Int) : Int := cn (fun v => decide (ky a v < ky a u)) (a 1)
theorem bef_ex (hW : WF a) {n : Int} (hn : 0 ≤ n ∧ n < a 1) : fs (fun u => decide (bef a u = n)) (a 1) ≠ -1 := by
  have hc := hW.c
  obtain ⟨u, u1, u2, u3⟩ := ord_ex (ky a) hn (fun i h1 h2 => (ky_rng hW ⟨h1, by omega⟩).1) (fun i j i1 i2 j1 j2 h => ky_inj hW ⟨i1, by omega⟩ ⟨j1, by omega⟩ h) (T := 15000) (by decide) (fun i h1 h2 => (ky_rng hW ⟨h1, by omega⟩).2)
  intro c
  have := fs_none _ c u u1 u2
  exact absurd u3 (of_decide_eq_false this)
theorem q_guardInOrder {K : Int32 → Mem → Prop} (hR : RC a (σ 2)) (hW : WF a) {n : Int} (hn : 0 ≤ n ∧ n < a 1) (h : K (zI (fs (fun u => decide (bef a u = n)) (a 1))) (va_up σ 3 (kyf a (σ 3) 10))) : wp_X2_guardInOrder (zI n) σ K := by
  have hc := hW.c
  unfold wp_X2_guardInOrder
  refine q_computeOrderKeys hR hW ?_
  have hK : ∀ j : Nat, j < 10 → va_up σ 3 (kyf a (σ 3) 10) 3 j = zI (ky a j) := fun j hj => by
    rw [up_e]
    exact if_pos (by omega)
  have h9 := lpI (F := wpF_X2_guardInOrder_6 K) (fun i => (zI n, zI i, va_up σ 3 (kyf a (σ 3) 10))) (fun i => 0 ≤ i ∧ fs (fun u => decide (bef a u = n)) i = -1) (a 1) (fun B hP => ?_) (fun i B hi hP hB => ?_) 0 (by omega) ⟨by decide, rfl⟩
  · exact h9
  · exact absurd hP.2 (bef_ex hW hn)
  · show wpS_X2_guardInOrder_6 K B (zI n) (zI i) (va_up σ 3 (kyf a (σ 3) 10))
    have hk := ky_rng hW (u := i) ⟨hP.1, by omega⟩
    have hb := cn_rng (fun v => decide (ky a v < ky a i)) (k := a 1) (by omega)
    unfold wpS_X2_guardInOrder_6
    rw [zl_10]
    refine br_le (by omega) (by omega) (fun c => absurd c (by omega)) (fun c => q_guards hR ?_)
    refine br_le (by omega) (by omega) (fun c => absurd c (by omega)) (fun c => ?_)
    rw [zI_nat (by omega) (by omega), hK _ (by omega), show ((i.toNat : Nat) : Int) = i by omega]
    refine ⟨zI_in (by omega) (by omega) (by decide), q_guardsBefore (σ := va_up σ 3 (kyf a (σ 3) 10)) hR hW hK hk ?_⟩
    refine br_ne (by omega) (by omega) (fun e => ?_) (fun e v9 e9 => ?_)
    · rw [fs_found _ hP.1 hi hP.2 (decide_eq_true e)] at h
      exact h
    · rw [zl_1, zI_add] at e9
      subst e9
      exact hB ⟨by omega, fs_no _ hP.1 hP.2 (decide_eq_false e)⟩
theorem m_isAhead {K : Int32 → Mem → Prop} (hG : RG a (σ 26)) (hW : WF a) {u v : Int} (hu : 0 ≤ u ∧ u < a 1) (hv : 0 ≤ v ∧ v < a 1) (h : K (if ky a u < ky a v then 1 else 0) σ) : wp_X5_isAhead (zI u) (zI v) σ K := by
  have hc := hW.c
  have d1 := dts_rng a u
  have d2 := dts_rng a v
  have r1 := rk_rng hW (u := u) ⟨hu.1, by omega⟩
  have r2 := rk_rng hW (u := v) ⟨hv.1, by omega⟩
  have s1 : rk a u = a (9 + u.toNat) := if_pos hu.2
  have s2 : rk a v = a (9 + v.toNat) := if_pos hv.2
  have hk1 : ky a u = (dts a u * 10 + rk a u) * 10 + u := rfl
  have hk2 : ky a v = (dts a v * 10 + rk a v) * 10 + v := rfl
  unfold wp_X5_isAhead
  refine m_duties hG hW ⟨hu.1, by omega⟩ (m_duties hG hW ⟨hv.1, by omega⟩ (fun v5 e5 => ?_))
  rw [zI_sub] at e5
  subst e5
  refine br_0 (by omega) (fun c => ?_) (fun c => ?_)
  · refine m_ranked hG ⟨hu.1, by omega⟩ (m_ranked hG ⟨hv.1, by omega⟩ ?_)
    refine br_lt (by omega) (by omega) (fun c2 => ?_) (fun c2 => ?_)
    · rwa [if_pos (by omega)] at h
    · refine m_ranked hG ⟨hu.1, by omega⟩ (m_ranked hG ⟨hv.1, by omega⟩ ?_)
      refine br_ne (by omega) (by omega) (fun c3 => br_le (by omega) (by omega) (fun c4 => ?_) (fun c4 => ?_)) (fun c3 => ?_)
      · rwa [if_neg (by omega)] at h
      · rwa [if_pos (by omega)] at h
      · rwa [if_neg (by omega)] at h
  · refine br_ge0 (by omega) (fun c2 => ?_) (fun c2 => ?_)
    · rwa [if_neg (by omega)] at h
    · rwa [if_pos (by omega)] at h
theorem m_guardByDuties {K : Int32 → Mem → Prop} (hG : RG a (σ 26)) (hW : WF a) {n : Int} (hn : -2147483648 ≤ n ∧ n < 2147483648) (h : (0 ≤ n ∧ n < a 1) → K (zI (fs (fun u => decide (bef a u = n)) (a 1))) (st σ 25 7 0)) (h0 : ¬ (0 ≤ n ∧ n < a 1) → K 0 (st σ 25 7 1)) : wp_X5_guardByDuties (zI n) σ K := by
  have hc := hW.c
  unfold wp_X5_guardByDuties
  have h9 := lpI (F := wpF_X5_guardByDuties_2 K) (fun i => (zI n, zI i, σ)) (fun i => 0 ≤ i ∧ fs (fun u => decide (bef a u = n)) i = -1) (a 1) (fun B hP => ?_) (fun i B hi hP hB => ?_) 0 (by omega) ⟨by decide, rfl⟩
  · exact h9
  · show wpS_X5_guardByDuties_2 K B (zI n) (zI (a 1)) σ
    unfold wpS_X5_guardByDuties_2 wpJ_X5_guardByDuties_73
    rw [hG.2.1]
    refine br_le (by omega) (by omega) (fun _ σ2 e => ?_) (fun c => absurd c (by omega))
    subst e
    exact h0 (fun hh => bef_ex hW hh hP.2)
  · show wpS_X5_guardByDuties_2 K B (zI n) (zI i) σ
    unfold wpS_X5_guardByDuties_2
    rw [hG.2.1]
    refine br_le (by omega) (by omega) (fun c => absurd c (by omega)) (fun _ => ?_)
    have h8 := lpI (F := wpF_X5_guardByDuties_17 K B) (fun j => (zI n, zI i, zI (cn (fun v => decide (ky a v < ky a i)) j), zI j, σ)) (fun j => 0 ≤ j) (a 1) (fun B2 hP2 => ?_) (fun j B2 hj hP2 hB2 => ?_) 0 (by omega) (by decide)
    · exact h8
    · show wpS_X5_guardByDuties_17 K B B2 (zI n) (zI i) (zI (bef a i)) (zI (a 1)) σ
      have hb := cn_rng (fun v => decide (ky a v < ky a i)) (k := a 1) (by omega)
      have hl := cn_lt (p := fun v => decide (ky a v < ky a i)) hP.1 hi (decide_eq_false (by omega))
      change bef a i < a 1 at hl
      change 0 ≤ bef a i ∧ bef a i ≤ a 1 at hb
      unfold wpS_X5_guardByDuties_17 wpJ_X5_guardByDuties_52 wpJ_X5_guardByDuties_60
      rw [hG.2.1]
      refine br_le (by omega) (by omega) (fun _ => ?_) (fun c => absurd c (by omega))
      refine br_eq (by omega) (by omega) (fun c σ5 e5 => ?_) (fun c v6 e6 => ?_)
      · subst e5
        rw [fs_found _ hP.1 hi hP.2 (decide_eq_true c)] at h
        exact h (by omega)
      · rw [zl_1, zI_add] at e6
        subst e6
        exact hB ⟨by omega, fs_no _ hP.1 hP.2 (decide_eq_false c)⟩
    · show wpS_X5_guardByDuties_17 K B B2 (zI n) (zI i) (zI (cn (fun v => decide (ky a v < ky a i)) j)) (zI j) σ
      have hB3 := hB2 (by omega)
      unfold wpS_X5_guardByDuties_17 wpJ_X5_guardByDuties_44
      rw [hG.2.1]
      refine br_le (by omega) (by omega) (fun c => absurd c (by omega)) (fun _ => ?_)
      refine m_isAhead hG hW ⟨hP2, hj⟩ ⟨hP.1, hi⟩ ?_
      by_cases c : ky a j < ky a i
      · rw [if_pos c]
        refine one_ne (fun v10 e10 v11 e11 => ?_)
        rw [zl_1, zI_add] at e10 e11
        subst e10; subst e11
        rw [cn_t (fun v => decide (ky a v < ky a i)) hP2 (decide_eq_true (p := ky a j < ky a i) c)] at hB3
        exact hB3
      · rw [if_neg c]
        refine zero_eq (fun v10 e10 v11 e11 => ?_)
        rw [zl_0, zI_add, Int.add_zero] at e10
        rw [zl_1, zI_add] at e11
        subst e10; subst e11
        rw [cn_f (fun v => decide (ky a v < ky a i)) hP2 (decide_eq_false (p := ky a j < ky a i) c)] at hB3
        exact hB3
end O0
theorem o_23 {σ : Mem} (hI : Inv σ) (a1 a2 a3 a4 : Int32) : wplc_23 a1 a2 a3 a4 σ Inv := by
  obtain ⟨⟨a, hW, hR, hG⟩, hX⟩ := hI
  have hc := hW.c
  obtain ⟨n, rfl, hn⟩ := zI_ex a1
  unfold wplc_23 wp_L_guardByDuties wp_X4_guardByDuties
  refine q_isGuard hR hW hn.1 hn.2 (fun c1 c2 => one_ne' ?_) (fun c => zero_eq' ⟨rfl, ?_⟩)
  · refine q_guardInOrder hR hW ⟨c1, c2⟩ (fun σ4 e => ?_)
    subst e
    exact m_guardByDuties (σ := st (va_up σ 3 _) 34 0 _) hG hW hn (fun _ => fin_i rfl (fun _ => rfl) ⟨⟨a, hW, hR, hG⟩, hX⟩) (fun c => absurd ⟨c1, c2⟩ c)
  · exact m_guardByDuties hG hW hn (fun h => absurd h c) (fun _ => fin_i rfl (fun c => absurd c (by decide)) ⟨⟨a, hW, hR, hG⟩, hX⟩)
