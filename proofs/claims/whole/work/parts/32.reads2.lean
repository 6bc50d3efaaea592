/-! branches -/
section BR
variable {A B : Prop} {x y : Int}
theorem br_eq (h1 : -2147483648 ≤ x ∧ x < 2147483648) (h2 : -2147483648 ≤ y ∧ y < 2147483648) (ht : x = y → A) (hf : x ≠ y → B) : (zI x = zI y → A) ∧ (¬ zI x = zI y → B) := by
  rw [zI_eq h1.1 h1.2 h2.1 h2.2]; exact ⟨ht, hf⟩
theorem br_ne (h1 : -2147483648 ≤ x ∧ x < 2147483648) (h2 : -2147483648 ≤ y ∧ y < 2147483648) (ht : x = y → A) (hf : x ≠ y → B) : (¬ zI x = zI y → B) ∧ (zI x = zI y → A) := by
  rw [zI_eq h1.1 h1.2 h2.1 h2.2]; exact ⟨hf, ht⟩
theorem br_le (h1 : -2147483648 ≤ x ∧ x < 2147483648) (h2 : -2147483648 ≤ y ∧ y < 2147483648) (ht : x ≤ y → A) (hf : y < x → B) : (zI x ≤ zI y → A) ∧ (¬ zI x ≤ zI y → B) := by
  rw [zI_le h1.1 h1.2 h2.1 h2.2]; exact ⟨ht, fun h => hf (by omega)⟩
theorem br_lt (h1 : -2147483648 ≤ x ∧ x < 2147483648) (h2 : -2147483648 ≤ y ∧ y < 2147483648) (ht : x < y → A) (hf : y ≤ x → B) : (zI x < zI y → A) ∧ (¬ zI x < zI y → B) := by
  rw [zI_lt h1.1 h1.2 h2.1 h2.2]; exact ⟨ht, fun h => hf (by omega)⟩
theorem br_m1 (h1 : -2147483648 ≤ x ∧ x < 2147483648) (ht : x = -1 → A) (hf : x ≠ -1 → B) : (zI x = (-1 : Int32) → A) ∧ (¬ zI x = (-1 : Int32) → B) := br_eq h1 (by decide) ht hf
theorem br_nm1 (h1 : -2147483648 ≤ x ∧ x < 2147483648) (ht : x = -1 → A) (hf : x ≠ -1 → B) : (¬ zI x = (-1 : Int32) → B) ∧ (zI x = (-1 : Int32) → A) := br_ne h1 (by decide) ht hf
theorem br_0 (h1 : -2147483648 ≤ x ∧ x < 2147483648) (ht : x = 0 → A) (hf : x ≠ 0 → B) : (zI x = (0 : Int32) → A) ∧ (¬ zI x = (0 : Int32) → B) := br_eq h1 (by decide) ht hf
theorem br_n0 (h1 : -2147483648 ≤ x ∧ x < 2147483648) (ht : x = 0 → A) (hf : x ≠ 0 → B) : (¬ zI x = (0 : Int32) → B) ∧ (zI x = (0 : Int32) → A) := br_ne h1 (by decide) ht hf
theorem br_lt0 (h1 : -2147483648 ≤ x ∧ x < 2147483648) (ht : x < 0 → A) (hf : 0 ≤ x → B) : (zI x < (0 : Int32) → A) ∧ (¬ zI x < (0 : Int32) → B) := br_lt h1 (by decide) ht hf
theorem br_ge0 (h1 : -2147483648 ≤ x ∧ x < 2147483648) (ht : 0 ≤ x → A) (hf : x < 0 → B) : ((0 : Int32) ≤ zI x → A) ∧ (¬ (0 : Int32) ≤ zI x → B) := br_le (by decide) h1 ht hf
theorem br_le0 (h1 : -2147483648 ≤ x ∧ x < 2147483648) (ht : x ≤ 0 → A) (hf : 0 < x → B) : (zI x ≤ (0 : Int32) → A) ∧ (¬ zI x ≤ (0 : Int32) → B) := br_le h1 (by decide) ht hf
theorem one_ne' {A B : Prop} (h : B) : (¬ (1 : Int32) = 0 → B) ∧ ((1 : Int32) = 0 → A) := ⟨fun _ => h, fun c => absurd c (by decide)⟩
theorem zero_eq' {A B : Prop} (h : A) : (¬ (0 : Int32) = 0 → B) ∧ ((0 : Int32) = 0 → A) := ⟨fun c => absurd rfl c, fun _ => h⟩
end BR
theorem zI_max {x y : Int} (h1 : -2147483648 ≤ x ∧ x < 2147483648) (h2 : -2147483648 ≤ y ∧ y < 2147483648) : (if zI x < zI y then zI y else zI x) = zI (if x < y then y else x) := by
  by_cases h : x < y
  · rw [if_pos h, if_pos ((zI_lt h1.1 h1.2 h2.1 h2.2).mpr h)]
  · rw [if_neg h, if_neg (fun c => h ((zI_lt h1.1 h1.2 h2.1 h2.2).mp c))]
/-! sums -/
def sN (f : Int → Int) : Nat → Int
  | 0 => 0
  | n + 1 => sN f n + f n
def sm (f : Int → Int) (k : Int) : Int := sN f k.toNat
theorem sm_0 (f : Int → Int) : sm f 0 = 0 := rfl
theorem sm_s (f : Int → Int) {k : Int} (h : 0 ≤ k) : sm f (k + 1) = sm f k + f k := by
  obtain ⟨n, rfl⟩ := Int.eq_ofNat_of_zero_le h
  rfl
theorem sm_rng {f : Int → Int} {n m : Int} (hm : 0 ≤ m) (hf : ∀ k, 0 ≤ k → k < n → 0 ≤ f k ∧ f k ≤ m) : ∀ {k : Int}, 0 ≤ k → k ≤ n → 0 ≤ sm f k ∧ sm f k ≤ k * m := by
  have key : ∀ d : Nat, (d : Int) ≤ n → 0 ≤ sN f d ∧ sN f d ≤ d * m := by
    intro d
    induction d with
    | zero => intro _; exact ⟨Int.le_refl _, by rw [show ((0 : Nat) : Int) * m = 0 by simp]; exact Int.le_refl _⟩
    | succ d ih =>
      intro hd
      have h1 := ih (by omega)
      have h2 := hf d (by omega) (by omega)
      have e : ((d + 1 : Nat) : Int) * m = d * m + m := by rw [Int.natCast_add, Int.add_mul]; simp
      unfold sN
      omega
  intro k h1 h2
  have := key k.toNat (by omega)
  unfold sm
  rwa [show ((k.toNat : Nat) : Int) = k by omega] at this
/-! more that the roster answers -/
section Q1
variable {a : Nat → Int} {σ : Mem} {K : Int32 → Mem → Prop}
/-- the first slot from f to l with a duty of the guard, by its distance from f -/
def fsl (a : Nat → Int) (u f l : Int) : Int := fs (fun i => decide (held a u (f + i) ≠ -1)) (l - f + 1)
def fgh (a : Nat → Int) (u f l : Int) : Int := if fsl a u f l = -1 then -1 else held a u (f + fsl a u f l)
theorem q_firstGateHeld (hR : RC a (σ 2)) (hW : WF a) {u f l : Int} (hu : 0 ≤ u ∧ u < 1000) (hf : 0 ≤ f ∧ f ≤ l) (hl : l < 28) (h : K (zI (fgh a u f l)) σ) : wp_X2_firstGateHeld (zI u) (zI f) (zI l) σ K := by
  unfold wp_X2_firstGateHeld
  have h9 := lpI (F := wpF_X2_firstGateHeld_3 K) (fun k => (zI u, zI l, zI (f + k), σ)) (fun k => 0 ≤ k ∧ fs (fun i => decide (held a u (f + i) ≠ -1)) k = -1) (l - f + 1) (fun B hP => ?_) (fun k B hk hP hB => ?_) 0 (by omega) ⟨by decide, rfl⟩
  · rwa [Int.add_zero] at h9
  · show wpS_X2_firstGateHeld_3 K B (zI u) (zI l) (zI (f + (l - f + 1))) σ
    have e : fgh a u f l = -1 := if_pos hP.2
    rw [e] at h
    unfold wpS_X2_firstGateHeld_3
    exact br_lt (by omega) (by omega) (fun _ => h) (fun c => absurd c (by omega))
  · show wpS_X2_firstGateHeld_3 K B (zI u) (zI l) (zI (f + k)) σ
    unfold wpS_X2_firstGateHeld_3
    refine br_lt (by omega) (by omega) (fun c => absurd c (by omega)) (fun _ => ?_)
    rw [zl_28]
    refine br_le (by omega) (by omega) (fun c => absurd c (by omega)) (fun _ => ?_)
    refine q_gateHeld hR hW (by omega) (by omega) ?_
    have hr := held_rng a u (f + k)
    refine br_m1 (by omega) (fun c v hv => ?_) (fun c => ?_)
    · subst hv
      rw [zl_1, zI_add]
      have := hB ⟨by omega, fs_no _ hP.1 hP.2 (decide_eq_false (by omega))⟩
      rwa [show f + (k + 1) = f + k + 1 by omega] at this
    · have e : fsl a u f l = k := fs_found _ hP.1 hk hP.2 (decide_eq_true c)
      have e2 : fgh a u f l = held a u (f + k) := by
        unfold fgh
        rw [e, if_neg (by omega)]
      rwa [e2] at h
/-- open gates of a slot -/
def opn (a : Nat → Int) (s : Int) : Int := cn (fun k => decide (du a k s = -1)) (a 0)
theorem opn_rng (hW : WF a) (s : Int) : 0 ≤ opn a s ∧ opn a s ≤ a 0 := cn_rng _ hW.1.1
theorem q_openGatesIn (hR : RC a (σ 2)) (hW : WF a) {s : Int} (hs : 0 ≤ s ∧ s < 28) (h : K (zI (opn a s)) σ) : wp_X2_openGatesIn (zI s) σ K := by
  have hc := hW.c
  unfold wp_X2_openGatesIn
  refine lpI (F := wpF_X2_openGatesIn_4 K) (fun k => (zI s, zI (cn (fun k => decide (du a k s = -1)) k), zI k, σ)) (fun k => 0 ≤ k) (a 0) (fun B hP => ?_) (fun k B hk hP hB => ?_) 0 (by omega) (by decide)
  · show wpS_X2_openGatesIn_4 K B (zI s) _ (zI (a 0)) σ
    unfold wpS_X2_openGatesIn_4
    refine q_gates hR ?_
    exact br_le (by omega) (by omega) (fun _ => h) (fun c => absurd c (by omega))
  · show wpS_X2_openGatesIn_4 K B (zI s) (zI (cn _ k)) (zI k) σ
    unfold wpS_X2_openGatesIn_4 wpJ_X2_openGatesIn_25
    refine q_gates hR ?_
    refine br_le (by omega) (by omega) (fun c => absurd c (by omega)) (fun _ => ?_)
    refine q_guardOn hR hW hP hk hs.1 hs.2 ?_
    have hd := hW.dq (k := k) (s := s) ⟨hP, by omega⟩ hs
    have hB := hB (by omega)
    refine br_nm1 (by omega) (fun c v hv v3 hv3 => ?_) (fun c v hv => ?_)
    · subst hv; subst hv3
      rw [zl_1, zI_add, zI_add]
      rwa [cn_t _ hP (decide_eq_true c)] at hB
    · subst hv
      rw [zl_1, zI_add]
      rwa [cn_f _ hP (decide_eq_false c)] at hB
/-- open slots of a gate from now on -/
def osl (a : Nat → Int) (k : Int) : Int := cn (fun i => decide (du a k (a 3 + i) = -1)) (28 - a 3)
theorem osl_rng (hW : WF a) (k : Int) : 0 ≤ osl a k ∧ osl a k ≤ 28 - a 3 := by
  have hc := hW.c
  exact cn_rng _ (by omega)
theorem q_openSlotsOf (hR : RC a (σ 2)) (hW : WF a) {k : Int} (hk : 0 ≤ k ∧ k < a 0) (h : K (zI (osl a k)) σ) : wp_X2_openSlotsOf (zI k) σ K := by
  have hc := hW.c
  unfold wp_X2_openSlotsOf
  refine q_now hR ?_
  have h9 := lpI (F := wpF_X2_openSlotsOf_7 K) (fun i => (zI k, zI (cn (fun i => decide (du a k (a 3 + i) = -1)) i), zI (a 3 + i), σ)) (fun i => 0 ≤ i) (28 - a 3) (fun B hP => ?_) (fun i B hi hP hB => ?_) 0 (by omega) (by decide)
  · rwa [Int.add_zero] at h9
  · show wpS_X2_openSlotsOf_7 K B (zI k) _ (zI (a 3 + (28 - a 3))) σ
    unfold wpS_X2_openSlotsOf_7
    rw [zl_28]
    exact br_le (by omega) (by omega) (fun _ => h) (fun c => absurd c (by omega))
  · show wpS_X2_openSlotsOf_7 K B (zI k) (zI (cn _ i)) (zI (a 3 + i)) σ
    unfold wpS_X2_openSlotsOf_7 wpJ_X2_openSlotsOf_26
    rw [zl_28]
    refine br_le (by omega) (by omega) (fun c => absurd c (by omega)) (fun _ => ?_)
    refine q_guardOn hR hW hk.1 hk.2 (by omega) (by omega) ?_
    have hd := hW.dq (k := k) (s := a 3 + i) ⟨hk.1, by omega⟩ ⟨by omega, by omega⟩
    have hB := hB (by omega)
    rw [show a 3 + (i + 1) = a 3 + i + 1 by omega] at hB
    refine br_nm1 (by omega) (fun c v hv v3 hv3 => ?_) (fun c v hv => ?_)
    · subst hv; subst hv3
      rw [zl_1, zI_add, zI_add]
      rwa [cn_t _ hP (decide_eq_true c)] at hB
    · subst hv
      rw [zl_1, zI_add]
      rwa [cn_f _ hP (decide_eq_false c)] at hB
/-- all duties from a slot on -/
def alD (a : Nat → Int) (f : Int) : Int := sm (fun i => a 0 - opn a (f + i)) (28 - f)
theorem alD_rng (hW : WF a) {f : Int} (hf : 0 ≤ f ∧ f ≤ 28) : 0 ≤ alD a f ∧ alD a f ≤ 140 := by
  have hc := hW.c
  have := sm_rng (f := fun i => a 0 - opn a (f + i)) (n := 28 - f) (m := 5) (by decide) (fun k _ _ => by have := opn_rng hW (f + k); omega) (k := 28 - f) (by omega) (by omega)
  unfold alD
  omega
theorem q_allDuties (hR : RC a (σ 2)) (hW : WF a) {f : Int} (hf : 0 ≤ f ∧ f ≤ 28) (h : K (zI (alD a f)) σ) : wp_X2_allDuties (zI f) σ K := by
  have hc := hW.c
  unfold wp_X2_allDuties
  intro v hv
  have ev : v = zI (f + 0) := by
    rw [hv, Int.add_zero]
    by_cases h0 : (0 : Int32) < zI f
    · rw [if_pos h0]
    · rw [if_neg h0]
      rw [zl_0, zI_lt (by decide) (by decide) (by omega) (by omega)] at h0
      rw [zl_0]
      congr 1
      omega
  subst ev
  refine lpI (F := wpF_X2_allDuties_8 K) (fun i => (zI (sm (fun i => a 0 - opn a (f + i)) i), zI (f + i), σ)) (fun i => 0 ≤ i) (28 - f) (fun B hP => ?_) (fun i B hi hP hB => ?_) 0 (by omega) (by decide)
  · show wpS_X2_allDuties_8 K B _ (zI (f + (28 - f))) σ
    unfold wpS_X2_allDuties_8
    rw [zl_28]
    exact br_le (by omega) (by omega) (fun _ => h) (fun c => absurd c (by omega))
  · show wpS_X2_allDuties_8 K B (zI (sm _ i)) (zI (f + i)) σ
    unfold wpS_X2_allDuties_8
    rw [zl_28]
    refine br_le (by omega) (by omega) (fun c => absurd c (by omega)) (fun _ => ?_)
    refine q_gates hR ?_
    refine q_openGatesIn hR hW (by omega) ?_
    intro v hv v2 hv2
    subst hv; subst hv2
    have hB := hB (by omega)
    rw [zl_1, zI_add, zI_sub, zI_add]
    rwa [sm_s _ hP, show f + (i + 1) = f + i + 1 by omega] at hB
/-- whether a guard is on leave in a slot -/
def off (a : Nat → Int) (u s : Int) : Bool := decide (((zI (a (29 + u.toNat)) >>> (zI s &&& 31)) &&& (1 : Int32)) = 1)
theorem q_hasLeave (hR : RC a (σ 2)) (hW : WF a) {u s : Int} (hu : 0 ≤ u ∧ u < a 1) (h : K (if off a u s = true then 1 else 0) σ) : wp_X2_hasLeave (zI u) (zI s) σ K := by
  have hc := hW.c
  unfold wp_X2_hasLeave
  refine q_isGuard hR hW (by omega) (by omega) (fun _ _ => one_ne ?_) (fun c => absurd hu c)
  rw [zl_29, zI_add, zI_nat (by omega) (by omega), show (29 + u).toNat = 29 + u.toNat by omega, hR.1 _ (by omega)]
  refine ⟨zI_in (by omega) (by omega) (by decide), fun c => ?_, fun c => ?_⟩
  · rwa [if_neg (by unfold off; exact fun h => c (of_decide_eq_true h))] at h
  · rwa [if_pos (by unfold off; exact decide_eq_true c)] at h
/-- the reason against a duty, and what it tells -/
def rsn (a : Nat → Int) (k s u : Int) : Int := if du a k s ≠ -1 then 1 else if a (9 + u.toNat) < a (4 + k.toNat) then 2 else if off a u s = true then 3 else if held a u s ≠ -1 then 4 else if held a u (s - 1) ≠ -1 then 5 else if held a u (s + 1) ≠ -1 then 6 else 0
def dtl (a : Nat → Int) (k s u : Int) : Int := if du a k s ≠ -1 then du a k s else if a (9 + u.toNat) < a (4 + k.toNat) then a (9 + u.toNat) else if off a u s = true then s else if held a u s ≠ -1 then held a u s else if held a u (s - 1) ≠ -1 then held a u (s - 1) else held a u (s + 1)
theorem rsn_rng (a : Nat → Int) (k s u : Int) : 0 ≤ rsn a k s u ∧ rsn a k s u ≤ 6 := by
  unfold rsn
  (repeat' split) <;> omega
theorem q_reasonAgainst (hR : RC a (σ 2)) (hW : WF a) {k s u : Int} (hk : 0 ≤ k ∧ k < a 0) (hs : 0 ≤ s ∧ s < 28) (hu : 0 ≤ u ∧ u < a 1) (h : K (zI (rsn a k s u)) σ) : wp_X2_reasonAgainst (zI k) (zI s) (zI u) σ K := by
  have hc := hW.c
  have hd := hW.dq (k := k) (s := s) ⟨hk.1, by omega⟩ hs
  have h4 := hW.2.2.2.2.1 k.toNat (by omega)
  have h9 := hW.2.2.2.2.2.1 u.toNat (by omega)
  unfold wp_X2_reasonAgainst
  unfold rsn at h
  refine q_guardOn hR hW hk.1 hk.2 hs.1 hs.2 ?_
  refine br_m1 (by omega) (fun c => ?_) (fun c => ?_)
  · rw [if_neg (fun h => h c)] at h
    refine q_rankOf hR hW hu.1 hu.2 ?_
    refine q_rankNeededAt hR hW hk.1 hk.2 ?_
    refine br_le (by omega) (by omega) (fun c => ?_) (fun c => ?_)
    · rw [if_neg (by omega)] at h
      refine q_hasLeave hR hW hu ?_
      by_cases c3 : off a u s = true
      · rw [if_pos c3] at h
        rw [if_pos c3]
        exact one_ne h
      · rw [if_neg c3] at h
        rw [if_neg c3]
        refine zero_eq ?_
        refine q_gateHeld hR hW (by omega) (by omega) ?_
        have r1 := held_rng a u s
        refine br_m1 (by omega) (fun c => ?_) (fun c => ?_)
        · rw [if_neg (fun h => h c)] at h
          rw [zl_1, zI_sub]
          refine q_gateHeld hR hW (by omega) (by omega) ?_
          have r2 := held_rng a u (s - 1)
          refine br_m1 (by omega) (fun c => ?_) (fun c => ?_)
          · rw [if_neg (fun h => h c)] at h
            rw [zI_add]
            refine q_gateHeld hR hW (by omega) (by omega) ?_
            have r3 := held_rng a u (s + 1)
            refine br_m1 (by omega) (fun c => ?_) (fun c => ?_)
            · rw [if_neg (fun h => h c)] at h
              exact h
            · rw [if_pos c] at h
              exact h
          · rw [if_pos c] at h
            exact h
        · rw [if_pos c] at h
          exact h
    · rw [if_pos c] at h
      exact h
  · rw [if_pos c] at h
    exact h
theorem q_detailOf (hR : RC a (σ 2)) (hW : WF a) {k s u : Int} (hk : 0 ≤ k ∧ k < a 0) (hs : 0 ≤ s ∧ s < 28) (hu : 0 ≤ u ∧ u < a 1) (h0 : rsn a k s u ≠ 0) (h : K (zI (dtl a k s u)) σ) : wp_X2_detailOf (zI (rsn a k s u)) (zI k) (zI s) (zI u) σ K := by
  have hc := hW.c
  have hr := rsn_rng a k s u
  unfold wp_X2_detailOf
  rw [zl_1, zl_2, zl_3, zl_4, zl_5, zI_eq (by omega) (by omega) (by decide) (by decide), zI_eq (by omega) (by omega) (by decide) (by decide), zI_eq (by omega) (by omega) (by decide) (by decide), zI_eq (by omega) (by omega) (by decide) (by decide), zI_eq (by omega) (by omega) (by decide) (by decide)]
  unfold dtl at h
  unfold rsn at h0 ⊢
  by_cases c1 : du a k s ≠ -1
  · rw [if_pos c1] at h
    simp only [if_pos c1]
    refine ⟨fun _ => q_guardOn hR hW hk.1 hk.2 hs.1 hs.2 h, fun c => absurd c (by decide), fun c => absurd c (by decide), fun c => absurd c (by decide), fun c => absurd c (by decide), fun c => absurd trivial c⟩
  · rw [if_neg c1] at h h0
    simp only [if_neg c1]
    by_cases c2 : a (9 + u.toNat) < a (4 + k.toNat)
    · rw [if_pos c2] at h
      simp only [if_pos c2]
      exact ⟨fun c => absurd c (by decide), fun _ => q_rankOf hR hW hu.1 hu.2 h, fun c => absurd c (by decide), fun c => absurd c (by decide), fun c => absurd c (by decide), fun _ c => absurd trivial c⟩
    · rw [if_neg c2] at h h0
      simp only [if_neg c2]
      by_cases c3 : off a u s = true
      · rw [if_pos c3] at h
        simp only [if_pos c3]
        exact ⟨fun c => absurd c (by decide), fun c => absurd c (by decide), fun _ => h, fun c => absurd c (by decide), fun c => absurd c (by decide), fun _ _ c => absurd trivial c⟩
      · rw [if_neg c3] at h h0
        simp only [if_neg c3]
        by_cases c4 : held a u s ≠ -1
        · rw [if_pos c4] at h
          simp only [if_pos c4]
          exact ⟨fun c => absurd c (by decide), fun c => absurd c (by decide), fun c => absurd c (by decide), fun _ => q_gateHeld hR hW (by omega) (by omega) h, fun c => absurd c (by decide), fun _ _ _ c => absurd trivial c⟩
        · rw [if_neg c4] at h h0
          simp only [if_neg c4]
          by_cases c5 : held a u (s - 1) ≠ -1
          · rw [if_pos c5] at h
            simp only [if_pos c5]
            exact ⟨fun c => absurd c (by decide), fun c => absurd c (by decide), fun c => absurd c (by decide), fun c => absurd c (by decide), fun _ => by rw [zI_sub]; exact q_gateHeld hR hW (by omega) (by omega) h, fun _ _ _ _ c => absurd trivial c⟩
          · rw [if_neg c5] at h h0
            simp only [if_neg c5]
            by_cases c6 : held a u (s + 1) ≠ -1
            · simp only [if_pos c6]
              exact ⟨fun c => absurd c (by decide), fun c => absurd c (by decide), fun c => absurd c (by decide), fun c => absurd c (by decide), fun c => absurd c (by decide), fun _ _ _ _ _ => by rw [zI_add]; exact q_gateHeld hR hW (by omega) (by omega) h⟩
            · rw [if_neg c6] at h0
              exact absurd rfl h0
/-- the next slot with a duty -/
def nxi (a : Nat → Int) (u : Int) : Int := fs (fun i => decide (held a u (a 3 + i) ≠ -1)) (28 - a 3)
def nxt (a : Nat → Int) (u : Int) : Int := if nxi a u = -1 then -1 else a 3 + nxi a u
theorem nxt_rng (hW : WF a) (u : Int) : -1 ≤ nxt a u ∧ nxt a u < 28 := by
  have hc := hW.c
  have := fs_rng (fun i => decide (held a u (a 3 + i) ≠ -1)) (k := 28 - a 3) (by omega)
  unfold nxt nxi
  split <;> omega
theorem q_nextSlotOf (hR : RC a (σ 2)) (hW : WF a) {u : Int} (hu : 0 ≤ u ∧ u < 1000) (h : K (zI (nxt a u)) σ) : wp_X2_nextSlotOf (zI u) σ K := by
  have hc := hW.c
  unfold wp_X2_nextSlotOf
  refine q_now hR ?_
  have h9 := lpI (F := wpF_X2_nextSlotOf_5 K) (fun i => (zI u, zI (a 3 + i), σ)) (fun k => 0 ≤ k ∧ fs (fun i => decide (held a u (a 3 + i) ≠ -1)) k = -1) (28 - a 3) (fun B hP => ?_) (fun k B hk hP hB => ?_) 0 (by omega) ⟨by decide, rfl⟩
  · rwa [Int.add_zero] at h9
  · show wpS_X2_nextSlotOf_5 K B (zI u) (zI (a 3 + (28 - a 3))) σ
    have e : nxt a u = -1 := if_pos hP.2
    rw [e] at h
    unfold wpS_X2_nextSlotOf_5
    rw [zl_28]
    exact br_le (by omega) (by omega) (fun _ => h) (fun c => absurd c (by omega))
  · show wpS_X2_nextSlotOf_5 K B (zI u) (zI (a 3 + k)) σ
    unfold wpS_X2_nextSlotOf_5
    rw [zl_28]
    refine br_le (by omega) (by omega) (fun c => absurd c (by omega)) (fun _ => ?_)
    refine q_gateHeld hR hW (by omega) (by omega) ?_
    have hr := held_rng a u (a 3 + k)
    refine br_m1 (by omega) (fun c v hv => ?_) (fun c => ?_)
    · subst hv
      rw [zl_1, zI_add]
      have := hB ⟨by omega, fs_no _ hP.1 hP.2 (decide_eq_false (by omega))⟩
      rwa [show a 3 + (k + 1) = a 3 + k + 1 by omega] at this
    · have e : nxi a u = k := fs_found _ hP.1 hk hP.2 (decide_eq_true c)
      have e2 : nxt a u = a 3 + k := by
        unfold nxt
        rw [e, if_neg (by omega)]
      rwa [e2] at h
/-- the gap at a slot, and the longest so far -/
def gpN (a : Nat → Int) (u : Int) : Nat → Int × Int
  | 0 => (0, 0)
  | n + 1 => (if held a u n = -1 then (gpN a u n).1 + 1 else 0, if (gpN a u n).2 < (if held a u n = -1 then (gpN a u n).1 + 1 else 0) then (if held a u n = -1 then (gpN a u n).1 + 1 else 0) else (gpN a u n).2)
def gp (a : Nat → Int) (u k : Int) : Int × Int := gpN a u k.toNat
theorem gp_s (a : Nat → Int) (u : Int) {k : Int} (h : 0 ≤ k) : gp a u (k + 1) = (if held a u k = -1 then (gp a u k).1 + 1 else 0, if (gp a u k).2 < (if held a u k = -1 then (gp a u k).1 + 1 else 0) then (if held a u k = -1 then (gp a u k).1 + 1 else 0) else (gp a u k).2) := by
  obtain ⟨n, rfl⟩ := Int.eq_ofNat_of_zero_le h
  rfl
theorem gpN_rng (a : Nat → Int) (u : Int) : ∀ n : Nat, 0 ≤ (gpN a u n).1 ∧ (gpN a u n).1 ≤ n ∧ 0 ≤ (gpN a u n).2 ∧ (gpN a u n).2 ≤ n
  | 0 => ⟨Int.le_refl _, Int.le_refl _, Int.le_refl _, Int.le_refl _⟩
  | n + 1 => by
    have := gpN_rng a u n
    unfold gpN
    dsimp only
    (repeat' split) <;> omega
theorem gp_rng (a : Nat → Int) (u : Int) {k : Int} (h : 0 ≤ k) : 0 ≤ (gp a u k).1 ∧ (gp a u k).1 ≤ k ∧ 0 ≤ (gp a u k).2 ∧ (gp a u k).2 ≤ k := by
  have := gpN_rng a u k.toNat
  unfold gp
  omega
theorem q_longestGap (hR : RC a (σ 2)) (hW : WF a) {u : Int} (hu : 0 ≤ u ∧ u < 1000) (h : K (zI (gp a u 28).2) σ) : wp_X2_longestGap (zI u) σ K := by
  unfold wp_X2_longestGap
  refine lpI (F := wpF_X2_longestGap_7 K) (fun k => (zI u, zI (gp a u k).2, zI (gp a u k).1, zI k, σ)) (fun k => 0 ≤ k) 28 (fun B hP => ?_) (fun k B hk hP hB => ?_) 0 (by decide) (by decide)
  · show wpS_X2_longestGap_7 K B (zI u) _ _ (zI 28) σ
    unfold wpS_X2_longestGap_7
    exact ⟨fun _ => h, fun c => absurd (by decide) c⟩
  · show wpS_X2_longestGap_7 K B (zI u) (zI (gp a u k).2) (zI (gp a u k).1) (zI k) σ
    unfold wpS_X2_longestGap_7 wpJ_X2_longestGap_32
    rw [zl_28]
    refine br_le (by omega) (by omega) (fun c => absurd c (by omega)) (fun _ => ?_)
    refine q_gateHeld hR hW (by omega) (by omega) ?_
    have hr := held_rng a u k
    have hg := gp_rng a u hP
    have hB := hB (by omega)
    rw [gp_s a u hP] at hB
    refine br_nm1 (by omega) (fun c v hv v3 hv3 => ?_) (fun c v hv v3 hv3 => ?_)
    · subst hv; subst hv3
      rw [zl_1, zI_add, zI_add, zI_max (by omega) (by omega)]
      rw [if_pos c] at hB
      exact hB
    · subst hv; subst hv3
      rw [zl_1, zl_0, zI_add, zI_max (by omega) (by omega)]
      rw [if_neg c] at hB
      exact hB
/-- every guard rests: no duties in two slots in a row -/
def two (a : Nat → Int) (u s : Int) : Bool := decide (held a u (s - 1) ≠ -1) && decide (held a u s ≠ -1)
def rst (a : Nat → Int) (u : Int) : Bool := decide (fs (fun i => two a u (1 + i)) 27 ≠ -1)
def rests (a : Nat → Int) : Int := if fs (fun u => rst a u) (a 1) = -1 then 1 else 0
theorem q_allRest (hR : RC a (σ 2)) (hW : WF a) (h : K (zI (rests a)) σ) : wp_X2_allRest σ K := by
  have hc := hW.c
  unfold wp_X2_allRest
  refine lpI (F := wpF_X2_allRest_2 K) (fun u => (zI u, σ)) (fun k => 0 ≤ k ∧ fs (fun u => rst a u) k = -1) (a 1) (fun B hP => ?_) (fun u B hu hP hB => ?_) 0 (by omega) ⟨by decide, rfl⟩
  · show wpS_X2_allRest_2 K B (zI (a 1)) σ
    have e : rests a = 1 := if_pos hP.2
    rw [e] at h
    unfold wpS_X2_allRest_2
    refine q_guards hR ?_
    exact br_le (by omega) (by omega) (fun _ => h) (fun c => absurd c (by omega))
  · show wpS_X2_allRest_2 K B (zI u) σ
    unfold wpS_X2_allRest_2
    refine q_guards hR ?_
    refine br_le (by omega) (by omega) (fun c => absurd c (by omega)) (fun _ => ?_)
    have h9 := lpI (F := wpF_X2_allRest_12 K B) (fun i => (zI u, zI (1 + i), σ)) (fun i => 0 ≤ i ∧ fs (fun i => two a u (1 + i)) i = -1) 27 (fun B2 hP2 => ?_) (fun i B2 hi hP2 hB2 => ?_) 0 (by decide) ⟨by decide, rfl⟩
    · exact h9
    · show wpS_X2_allRest_12 K B B2 (zI u) (zI (1 + 27)) σ
      unfold wpS_X2_allRest_12 wpJ_X2_allRest_48
      rw [zl_28]
      refine br_le (by decide) (by decide) (fun _ v hv => ?_) (fun c => absurd c (by decide))
      subst hv
      rw [zl_1, zI_add]
      exact hB ⟨by omega, fs_no _ hP.1 hP.2 (decide_eq_false (fun h => h hP2.2))⟩
    · show wpS_X2_allRest_12 K B B2 (zI u) (zI (1 + i)) σ
      unfold wpS_X2_allRest_12 wpJ_X2_allRest_42
      rw [zl_28]
      refine br_le (by omega) (by omega) (fun c => absurd c (by omega)) (fun _ => ?_)
      rw [zl_1, zI_sub, zI_add]
      have r1 := held_rng a u (1 + i - 1)
      have r2 := held_rng a u (1 + i)
      have hn : two a u (1 + i) = false → B2 (zI u, zI (1 + i + 1), σ) := fun c => by
        have := hB2 ⟨by omega, fs_no _ hP2.1 hP2.2 c⟩
        rwa [show 1 + (i + 1) = 1 + i + 1 by omega] at this
      refine q_gateHeld hR hW (by omega) (by omega) ?_
      refine br_m1 (by omega) (fun c v hv => ?_) (fun c => ?_)
      · subst hv
        exact hn (by unfold two; rw [decide_eq_false (fun h => h c)]; rfl)
      · refine q_gateHeld hR hW (by omega) (by omega) ?_
        refine br_m1 (by omega) (fun c2 v hv => ?_) (fun c2 => ?_)
        · subst hv
          exact hn (by unfold two; rw [decide_eq_false (fun h : held a u (1 + i) ≠ -1 => h c2), Bool.and_false])
        · have e1 : two a u (1 + i) = true := by unfold two; rw [decide_eq_true c, decide_eq_true c2]; rfl
          have e2 : fs (fun i => two a u (1 + i)) 27 = i := fs_found _ hP2.1 hi hP2.2 e1
          have e3 : rst a u = true := decide_eq_true (by rw [e2]; omega)
          have e4 : fs (fun u => rst a u) (a 1) = u := fs_found _ hP.1 hu hP.2 e3
          have e5 : rests a = 0 := if_neg (by rw [e4]; omega)
          rwa [e5] at h
end Q1
