/-! what the class's roster answers, in the picture's words -/
section Q0
variable {a : Nat → Int} {σ : Mem} {K : Int32 → Mem → Prop}
theorem q_gates (hR : RC a (σ 2)) (h : K (zI (a 0)) σ) : wp_X2_gates σ K := by
  unfold wp_X2_gates
  rw [hR.1 0 (by decide)]; exact h
theorem q_guards (hR : RC a (σ 2)) (h : K (zI (a 1)) σ) : wp_X2_guards σ K := by
  unfold wp_X2_guards
  rw [hR.1 1 (by decide)]; exact h
theorem q_rationsLeft (hR : RC a (σ 2)) (h : K (zI (a 2)) σ) : wp_X2_rationsLeft σ K := by
  unfold wp_X2_rationsLeft
  rw [hR.1 2 (by decide)]; exact h
theorem q_now (hR : RC a (σ 2)) (h : K (zI (a 3)) σ) : wp_X2_now σ K := by
  unfold wp_X2_now
  rw [hR.1 3 (by decide)]; exact h
theorem q_isGate (hR : RC a (σ 2)) (hW : WF a) {k : Int} (h1 : -2147483648 ≤ k) (h2 : k < 2147483648) (ht : 0 ≤ k → k < a 0 → K 1 σ) (hf : ¬ (0 ≤ k ∧ k < a 0) → K 0 σ) : wp_X2_isGate (zI k) σ K := by
  have hc := hW.c
  unfold wp_X2_isGate
  rw [hR.1 0 (by decide), zl_0, zl_5, zI_lt h1 h2 (by omega) (by omega), zI_le (by omega) (by omega) h1 h2, zI_le (by omega) (by omega) h1 h2]
  exact ⟨fun c => hf (by omega), fun c => ⟨fun c => hf (by omega), fun c => ⟨fun c => hf (by omega), fun c => ht (by omega) (by omega)⟩⟩⟩
theorem q_isGuard (hR : RC a (σ 2)) (hW : WF a) {k : Int} (h1 : -2147483648 ≤ k) (h2 : k < 2147483648) (ht : 0 ≤ k → k < a 1 → K 1 σ) (hf : ¬ (0 ≤ k ∧ k < a 1) → K 0 σ) : wp_X2_isGuard (zI k) σ K := by
  have hc := hW.c
  unfold wp_X2_isGuard
  rw [hR.1 1 (by decide), zl_0, zl_10, zI_lt h1 h2 (by omega) (by omega), zI_le (by omega) (by omega) h1 h2, zI_le (by omega) (by omega) h1 h2]
  exact ⟨fun c => hf (by omega), fun c => ⟨fun c => hf (by omega), fun c => ⟨fun c => hf (by omega), fun c => ht (by omega) (by omega)⟩⟩⟩
theorem q_isSlot {k : Int} (h1 : -2147483648 ≤ k) (h2 : k < 2147483648) (ht : 0 ≤ k → k < 28 → K 1 σ) (hf : ¬ (0 ≤ k ∧ k < 28) → K 0 σ) : wp_X2_isSlot (zI k) σ K := by
  unfold wp_X2_isSlot
  rw [zl_0, zl_28, zI_lt h1 h2 (by omega) (by omega), zI_le (by omega) (by omega) h1 h2]
  exact ⟨fun c => hf (by omega), fun c => ⟨fun c => hf (by omega), fun c => ht (by omega) (by omega)⟩⟩
theorem one_ne {A B : Prop} (h : B) : ((1 : Int32) = 0 → A) ∧ (¬ (1 : Int32) = 0 → B) := ⟨fun c => absurd c (by decide), fun _ => h⟩
theorem zero_eq {A B : Prop} (h : A) : ((0 : Int32) = 0 → A) ∧ (¬ (0 : Int32) = 0 → B) := ⟨fun _ => h, fun c => absurd rfl c⟩
theorem q_hasPassed (hR : RC a (σ 2)) (hW : WF a) {s : Int} (h1 : -2147483648 ≤ s) (h2 : s < 2147483648) (ht : s < a 3 → K 1 σ) (hf : a 3 ≤ s → K 0 σ) : wp_X2_hasPassed (zI s) σ K := by
  have hc := hW.c
  unfold wp_X2_hasPassed
  rw [hR.1 3 (by decide), zI_le (by omega) (by omega) h1 h2]
  exact ⟨fun c => hf c, fun c => ht (by omega)⟩
theorem q_rankNeededAt (hR : RC a (σ 2)) (hW : WF a) {k : Int} (h1 : 0 ≤ k) (h2 : k < a 0) (h : K (zI (a (4 + k.toNat))) σ) : wp_X2_rankNeededAt (zI k) σ K := by
  have hc := hW.c
  unfold wp_X2_rankNeededAt
  refine q_isGate hR hW (by omega) (by omega) (fun _ _ => one_ne ?_) (fun c => absurd ⟨h1, h2⟩ c)
  rw [zl_4, zI_add, zI_nat (by omega) (by omega), show (4 + k).toNat = 4 + k.toNat by omega, hR.1 _ (by omega)]
  exact ⟨zI_in (by omega) (by omega) (by decide), h⟩
theorem q_rankOf (hR : RC a (σ 2)) (hW : WF a) {k : Int} (h1 : 0 ≤ k) (h2 : k < a 1) (h : K (zI (a (9 + k.toNat))) σ) : wp_X2_rankOf (zI k) σ K := by
  have hc := hW.c
  unfold wp_X2_rankOf
  refine q_isGuard hR hW (by omega) (by omega) (fun _ _ => one_ne ?_) (fun c => absurd ⟨h1, h2⟩ c)
  rw [zl_9, zI_add, zI_nat (by omega) (by omega), show (9 + k).toNat = 9 + k.toNat by omega, hR.1 _ (by omega)]
  exact ⟨zI_in (by omega) (by omega) (by decide), h⟩
theorem q_faintsOf (hR : RC a (σ 2)) (hW : WF a) {k : Int} (h1 : 0 ≤ k) (h2 : k < a 1) (h : K (zI (a (19 + k.toNat))) σ) : wp_X2_faintsOf (zI k) σ K := by
  have hc := hW.c
  unfold wp_X2_faintsOf
  refine q_isGuard hR hW (by omega) (by omega) (fun _ _ => one_ne ?_) (fun c => absurd ⟨h1, h2⟩ c)
  rw [zl_19, zI_add, zI_nat (by omega) (by omega), show (19 + k).toNat = 19 + k.toNat by omega, hR.1 _ (by omega)]
  exact ⟨zI_in (by omega) (by omega) (by decide), h⟩
theorem q_guardOn (hR : RC a (σ 2)) (hW : WF a) {k s : Int} (h1 : 0 ≤ k) (h2 : k < a 0) (h3 : 0 ≤ s) (h4 : s < 28) (h : K (zI (du a k s)) σ) : wp_X2_guardOn (zI k) (zI s) σ K := by
  have hc := hW.c
  unfold wp_X2_guardOn
  refine q_isGate hR hW (by omega) (by omega) (fun _ _ => one_ne ?_) (fun c => absurd ⟨h1, h2⟩ c)
  refine q_isSlot (by omega) (by omega) (fun _ _ => one_ne ?_) (fun c => absurd ⟨h3, h4⟩ c)
  rw [zl_39, zl_28, zl_1, zI_mul, zI_add, zI_add, zI_nat (by omega) (by omega), hR.dq ⟨h1, by omega⟩ ⟨h3, h4⟩, zI_sub, show du a k s + 1 - 1 = du a k s by omega]
  exact ⟨zI_in (by omega) (by omega) (by decide), h⟩
/-- the gate of a guard in a slot -/
def held (a : Nat → Int) (u s : Int) : Int := if 0 ≤ u ∧ 0 ≤ s ∧ s < 28 then fs (fun k => decide (du a k s = u)) 5 else -1
theorem held_in {a : Nat → Int} {u s : Int} (hu : 0 ≤ u) (h3 : 0 ≤ s) (h4 : s < 28) : held a u s = fs (fun k => decide (du a k s = u)) 5 := if_pos ⟨hu, h3, h4⟩
theorem held_out {a : Nat → Int} {u s : Int} (h : ¬ (0 ≤ s ∧ s < 28)) : held a u s = -1 := if_neg (by omega)
theorem held_rng (a : Nat → Int) (u s : Int) : -1 ≤ held a u s ∧ held a u s < 5 := by
  unfold held
  split
  · have := fs_rng (fun k => decide (du a k s = u)) (k := 5) (by omega)
    omega
  · omega
theorem q_gateHeld (hR : RC a (σ 2)) (hW : WF a) {u s : Int} (hu : -1 ≤ u ∧ u < 1000) (hs : -1 ≤ s ∧ s ≤ 28) (h : K (zI (held a u s)) σ) : wp_X2_gateHeld (zI u) (zI s) σ K := by
  have hc := hW.c
  unfold wp_X2_gateHeld
  rw [zl_0, zl_28, zl_m1, zI_lt (by omega) (by omega) (by omega) (by omega), zI_le (by omega) (by omega) (by omega) (by omega), zI_le (by omega) (by omega) (by omega) (by omega)]
  refine ⟨fun c => ?_, fun c => ⟨fun c => ?_, fun c2 => ⟨fun c3 => ?_, fun c3 => ?_⟩⟩⟩
  · rwa [held_out (by omega)] at h
  · rwa [held_out (by omega)] at h
  · rw [held_in c3 (by omega) (by omega)] at h
    refine lpI (fun k => (zI u, zI s, zI k, σ)) (fun k => 0 ≤ k ∧ fs (fun k => decide (du a k s = u)) k = -1) 5 ?_ ?_ 0 (by decide) ⟨by decide, rfl⟩
    · intro B hP
      show wpS_X2_gateHeld_18 K B (zI u) (zI s) (zI 5) σ
      rw [hP.2] at h
      exact ⟨fun _ => h, fun c => absurd (by decide) c⟩
    · intro k B hk hP hB
      show wpS_X2_gateHeld_18 K B (zI u) (zI s) (zI k) σ
      unfold wpS_X2_gateHeld_18
      have hd := hW.dq (k := k) (s := s) ⟨hP.1, hk⟩ ⟨by omega, by omega⟩
      rw [zl_39, zl_28, zl_5, zl_1, zI_mul, zI_add, zI_add, zI_nat (by omega) (by omega), hR.dq ⟨hP.1, hk⟩ ⟨by omega, by omega⟩, zI_add, zI_add, zI_le (by omega) (by omega) (by omega) (by omega), zI_eq (by omega) (by omega) (by omega) (by omega)]
      refine ⟨fun c => absurd c (by omega), fun _ => ⟨zI_in (by omega) (by omega) (by decide), fun c => ?_, fun c => ?_⟩⟩
      · intro v hv
        subst hv
        exact hB ⟨by omega, fs_no _ hP.1 hP.2 (decide_eq_false (by omega))⟩
      · rwa [fs_found _ hP.1 hk hP.2 (decide_eq_true (by omega))] at h
  · have : held a u s = -1 := if_neg (by omega)
    rwa [this] at h
/-- how many duties a guard has -/
def dts (a : Nat → Int) (u : Int) : Int := cn (fun j => decide (a (39 + j).toNat = u)) 140
theorem dts_rng (a : Nat → Int) (u : Int) : 0 ≤ dts a u ∧ dts a u ≤ 140 := cn_rng _ (by decide)
theorem q_dutyTotal (hR : RC a (σ 2)) (hW : WF a) {u : Int} (hu : -1 ≤ u ∧ u < 1000) (h : K (zI (dts a u)) σ) : wp_X2_dutyTotal (zI u) σ K := by
  have hc := hW.c
  unfold wp_X2_dutyTotal
  rw [zl_0, zl_39]
  have h9 := lpI (F := wpF_X2_dutyTotal_5 K) (fun k => (zI u, zI (cn (fun j => decide (a (39 + j).toNat = u)) k), zI (k + 39), σ)) (fun k => 0 ≤ k) 140 (fun B _ => ?_) (fun k B hk hP hB => ?_) 0 (by decide) (by decide)
  · exact h9
  · show wpS_X2_dutyTotal_5 K B (zI u) _ (zI (140 + 39)) σ
    exact ⟨fun _ => h, fun c => absurd (by decide) c⟩
  · show wpS_X2_dutyTotal_5 K B (zI u) (zI (cn _ k)) (zI (k + 39)) σ
    have hd := hW.2.2.2.2.2.2.2.1 (k + 39).toNat (by omega) (by omega)
    unfold wpS_X2_dutyTotal_5 wpJ_X2_dutyTotal_27
    rw [zl_179, zl_1, zI_le (by omega) (by omega) (by omega) (by omega), zI_nat (by omega) (by omega), hR.2 _ (by omega) (by omega), zI_add, zI_add, zI_add, zI_eq (by omega) (by omega) (by omega) (by omega), show k + 39 + 1 = k + 1 + 39 by omega]
    have hB := hB (by omega)
    refine ⟨fun c => absurd c (by omega), fun _ => ⟨zI_in (by omega) (by omega) (by decide), fun c v hv => ?_, fun c v hv v3 hv3 => ?_⟩⟩
    · subst hv
      rw [cn_f _ hP (decide_eq_false (by rw [show (39 + k).toNat = (k + 39).toNat by omega]; omega))] at hB
      exact hB
    · subst hv; subst hv3
      rw [cn_t _ hP (decide_eq_true (by rw [show (39 + k).toNat = (k + 39).toNat by omega]; omega))] at hB
      exact hB
end Q0
