/-! two ways to sum -/
theorem sm_cong {f g : Int → Int} {n : Int} (h : ∀ k, 0 ≤ k → k < n → f k = g k) : sm f n = sm g n := by
  have key : ∀ d : Nat, (d : Int) ≤ n → sN f d = sN g d := by
    intro d
    induction d with
    | zero => intro _; rfl
    | succ d ih =>
      intro hd
      unfold sN
      rw [ih (by omega), h d (by omega) (by omega)]
  by_cases hn : 0 ≤ n
  · exact key n.toNat (by omega)
  · unfold sm
    rw [show n.toNat = 0 by omega]
    rfl
theorem sm_ind {P : Int → Prop} (h0 : P 0) (hs : ∀ k, 0 ≤ k → P k → P (k + 1)) {n : Int} (hn : 0 ≤ n) : P n := by
  have key : ∀ d : Nat, P d := by
    intro d
    induction d with
    | zero => exact h0
    | succ d ih => exact hs d (by omega) ih
  have := key n.toNat
  rwa [show ((n.toNat : Nat) : Int) = n by omega] at this
theorem sm_add (f g : Int → Int) {n : Int} (hn : 0 ≤ n) : sm (fun k => f k + g k) n = sm f n + sm g n := by
  refine sm_ind (P := fun n => sm (fun k => f k + g k) n = sm f n + sm g n) rfl (fun k hk ih => ?_) hn
  rw [sm_s _ hk, sm_s _ hk, sm_s _ hk, ih]
  omega
theorem sm_zero {n : Int} (hn : 0 ≤ n) : sm (fun _ => 0) n = 0 := by
  refine sm_ind (P := fun n => sm (fun _ => 0) n = 0) rfl (fun k hk ih => ?_) hn
  rw [sm_s _ hk, ih]
  rfl
theorem sm_one {n : Int} (hn : 0 ≤ n) : sm (fun _ => 1) n = n := by
  refine sm_ind (P := fun n => sm (fun _ => 1) n = n) rfl (fun k hk ih => ?_) hn
  rw [sm_s _ hk, ih]
theorem sm_swap (x : Int → Int → Int) {m n : Int} (hm : 0 ≤ m) (hn : 0 ≤ n) : sm (fun s => sm (fun k => x k s) m) n = sm (fun k => sm (fun s => x k s) n) m := by
  refine sm_ind (P := fun n => sm (fun s => sm (fun k => x k s) m) n = sm (fun k => sm (fun s => x k s) n) m) ?_ (fun s hs ih => ?_) hn
  · show (0 : Int) = sm (fun k => 0) m
    rw [sm_zero hm]
  · rw [sm_s _ hs, ih, ← sm_add _ _ hm]
    exact sm_cong (fun k _ _ => (sm_s _ hs).symm)
theorem sm_split (f : Int → Int) {m n : Int} (hm : 0 ≤ m) (hn : 0 ≤ n) : sm f (m + n) = sm f m + sm (fun k => f (m + k)) n := by
  refine sm_ind (P := fun n => sm f (m + n) = sm f m + sm (fun k => f (m + k)) n) ?_ (fun s hs ih => ?_) hn
  · rw [Int.add_zero, sm_0, Int.add_zero]
  · rw [← Int.add_assoc, sm_s _ (by omega), ih, sm_s _ hs]
    omega
theorem sm_flat (f : Int → Int) {g : Int} (hg : 0 ≤ g) : sm f (28 * g) = sm (fun k => sm (fun s => f (28 * k + s)) 28) g := by
  refine sm_ind (P := fun g => sm f (28 * g) = sm (fun k => sm (fun s => f (28 * k + s)) 28) g) rfl (fun k hk ih => ?_) hg
  rw [show 28 * (k + 1) = 28 * k + 28 by omega, sm_split f (by omega) (by decide), ih, sm_s _ hk]
theorem cn_sm (p : Int → Bool) {n : Int} (hn : 0 ≤ n) : cn p n = sm (fun k => if p k = true then 1 else 0) n := by
  refine sm_ind (P := fun n => cn p n = sm (fun k => if p k = true then 1 else 0) n) rfl (fun k hk ih => ?_) hn
  rw [cn_s p hk, ih, sm_s _ hk]
theorem cn_not (p : Int → Bool) {n : Int} (hn : 0 ≤ n) : n - cn p n = cn (fun k => !(p k)) n := by
  refine sm_ind (P := fun n => n - cn p n = cn (fun k => !(p k)) n) rfl (fun k hk ih => ?_) hn
  rw [cn_s p hk, cn_s _ hk, ← ih]
  cases p k <;> simp <;> omega
section CT
variable {a : Nat → Int}
theorem alM_alD (hW : WF a) : alM a = alD a 0 := by
  have hc := hW.c
  unfold alM alD
  rw [cn_sm _ (by omega), sm_flat _ hc.1.1]
  have e : sm (fun i => a 0 - opn a (0 + i)) (28 - 0) = sm (fun s => sm (fun k => if (!(decide (du a k s = -1))) = true then 1 else 0) (a 0)) 28 := by
    refine sm_cong (fun s _ _ => ?_)
    rw [Int.zero_add]
    unfold opn
    rw [cn_not _ hc.1.1, cn_sm _ hc.1.1]
  rw [e, sm_swap _ hc.1.1 (by decide)]
  refine sm_cong (fun k h1 h2 => sm_cong (fun s h3 h4 => ?_))
  have hd := hW.dq (k := k) (s := s) ⟨h1, by omega⟩ ⟨h3, h4⟩
  have ei : a (39 + (28 * k + s)).toNat = du a k s := by
    unfold du
    congr 2
    omega
  rw [ei]
  by_cases c : du a k s = -1
  · rw [if_neg (by rw [decide_eq_true_eq]; omega), if_neg (by rw [c]; decide)]
  · rw [if_pos (by rw [decide_eq_true_eq]; omega), if_pos (by rw [decide_eq_false c]; rfl)]
theorem osl_opF (hW : WF a) : sm (fun k => osl a k) (a 0) = opF a := by
  have hc := hW.c
  unfold opF
  have e1 : sm (fun k => osl a k) (a 0) = sm (fun k => sm (fun i => if decide (du a k (a 3 + i) = -1) = true then 1 else 0) (28 - a 3)) (a 0) := sm_cong (fun k _ _ => cn_sm _ (by omega))
  have e2 : sm (fun i => opn a (a 3 + i)) (28 - a 3) = sm (fun i => sm (fun k => if decide (du a k (a 3 + i) = -1) = true then 1 else 0) (a 0)) (28 - a 3) := sm_cong (fun i _ _ => cn_sm _ hc.1.1)
  rw [e1, e2, sm_swap (fun k i => if decide (du a k (a 3 + i) = -1) = true then 1 else 0) hc.1.1 (by omega)]
theorem opF_rng (hW : WF a) : 0 ≤ opF a ∧ opF a ≤ 140 := by
  have hc := hW.c
  have := sm_rng (f := fun i => opn a (a 3 + i)) (n := 28 - a 3) (m := 5) (by decide) (fun k _ _ => by have := opn_rng hW (a 3 + k); omega) (k := 28 - a 3) (by omega) (by omega)
  unfold opF
  omega
end CT
section CT2
variable {a : Nat → Int} {σ : Mem} {K : Int32 → Mem → Prop}
theorem q_openPlaces (hR : RC a (σ 2)) (hW : WF a) (h : K (zI (opF a)) σ) : wp_X4_openPlaces σ K := by
  have hc := hW.c
  rw [← osl_opF hW] at h
  unfold wp_X4_openPlaces
  refine lpI (F := wpF_X4_openPlaces_4 K) (fun k => (zI (sm (fun k => osl a k) k), zI k, σ)) (fun k => 0 ≤ k) (a 0) (fun B hP => ?_) (fun k B hk hP hB => ?_) 0 (by omega) (by decide)
  · show wpS_X4_openPlaces_4 K B _ (zI (a 0)) σ
    unfold wpS_X4_openPlaces_4
    refine q_gates hR ?_
    exact br_le (by omega) (by omega) (fun _ => h) (fun c => absurd c (by omega))
  · show wpS_X4_openPlaces_4 K B (zI (sm _ k)) (zI k) σ
    unfold wpS_X4_openPlaces_4
    refine q_gates hR ?_
    refine br_le (by omega) (by omega) (fun c => absurd c (by omega)) (fun _ => ?_)
    refine q_openSlotsOf hR hW ⟨hP, hk⟩ ?_
    intro v hv v2 hv2
    subst hv; subst hv2
    have hB := hB (by omega)
    rw [zl_1, zI_add, zI_add]
    rwa [sm_s _ hP] at hB
theorem q_openPlacesBySlots (hR : RC a (σ 2)) (hW : WF a) (h : K (zI (opF a)) σ) : wp_X4_openPlacesBySlots σ K := by
  have hc := hW.c
  unfold wp_X4_openPlacesBySlots
  refine q_now hR ?_
  have h9 := lpI (F := wpF_X4_openPlacesBySlots_10 K) (fun i => (zI (sm (fun i => opn a (a 3 + i)) i), zI (a 3 + i), σ)) (fun k => 0 ≤ k) (28 - a 3) (fun B hP => ?_) (fun k B hk hP hB => ?_) 0 (by omega) (by decide)
  · rwa [Int.add_zero] at h9
  · show wpS_X4_openPlacesBySlots_10 K B _ (zI (a 3 + (28 - a 3))) σ
    unfold wpS_X4_openPlacesBySlots_10
    rw [zl_28]
    exact br_le (by omega) (by omega) (fun _ => h) (fun c => absurd c (by omega))
  · show wpS_X4_openPlacesBySlots_10 K B (zI (sm _ k)) (zI (a 3 + k)) σ
    unfold wpS_X4_openPlacesBySlots_10
    rw [zl_28]
    refine br_le (by omega) (by omega) (fun c => absurd c (by omega)) (fun _ => ?_)
    refine q_openGatesIn hR hW (by omega) ?_
    intro v hv v2 hv2
    subst hv; subst hv2
    have hB := hB (by omega)
    rw [zl_1, zI_add, zI_add]
    rwa [sm_s _ hP, show a 3 + (k + 1) = a 3 + k + 1 by omega] at hB
theorem m_missing (hG : RG a (σ 26)) (hW : WF a) (h : K (zI (if alD a (a 3) ≤ a 2 then 0 else alD a (a 3) - a 2)) (st σ 25 7 0)) : wp_X5_missingRations σ K := by
  have hc := hW.c
  have hr := alD_rng hW (f := a 3) (by omega)
  unfold wp_X5_missingRations
  intro σ1 e1 v2 e2
  subst e1
  have e3 : v2 = zI (a 3) := by rw [e2]; exact hG.2.2.1
  subst e3
  have h9 := lpI (F := wpF_X5_missingRations_14 K) (fun i => (zI (sm (fun i => a 0 - opn a (a 3 + i)) i), zI (a 3 + i), st σ 25 7 0)) (fun k => 0 ≤ k) (28 - a 3) (fun B hP => ?_) (fun k B hk hP hB => ?_) 0 (by omega) (by decide)
  · rwa [Int.add_zero] at h9
  · show wpS_X5_missingRations_14 K B (zI (alD a (a 3))) (zI (a 3 + (28 - a 3))) (st σ 25 7 0)
    unfold wpS_X5_missingRations_14 wpJ_X5_missingRations_41
    rw [zl_28, st_c _ _ _ (show (26 : Nat) ≠ 25 by decide), hG.2.2.2.1, zI_sub]
    refine br_le (by omega) (by omega) (fun _ => ?_) (fun c => absurd c (by omega))
    refine br_le (by omega) (by omega) (fun c => ?_) (fun c => ?_)
    · rwa [if_pos c] at h
    · rwa [if_neg (by omega)] at h
  · show wpS_X5_missingRations_14 K B (zI (sm _ k)) (zI (a 3 + k)) (st σ 25 7 0)
    unfold wpS_X5_missingRations_14
    rw [zl_28]
    refine br_le (by omega) (by omega) (fun c => absurd c (by omega)) (fun _ => ?_)
    refine m_open (σ := st σ 25 7 0) (s := a 3 + k) hG hW (by omega) ?_
    intro v hv v2 hv2
    subst hv; subst hv2
    have hB := hB (by omega)
    rw [st_c _ _ _ (show (26 : Nat) ≠ 25 by decide), hG.1, zl_1, zI_sub, zI_add, zI_add]
    rwa [sm_s _ hP, show a 3 + (k + 1) = a 3 + k + 1 by omega] at hB
theorem m_longestRest (hG : RG a (σ 26)) (hW : WF a) {u : Int} (hu : -2147483648 ≤ u ∧ u < 2147483648) (h : 0 ≤ u → u < a 1 → K (zI (gp a u 28).2) (st σ 25 7 0)) (h0 : ¬ (0 ≤ u ∧ u < a 1) → K 0 (st σ 25 7 1)) : wp_X5_longestRest (zI u) σ K := by
  have hc := hW.c
  unfold wp_X5_longestRest wp_X5_isNone
  refine m_isGuard hG hW hu (fun c1 c2 => one_ne ?_) (fun c => zero_eq ?_)
  · have h := h c1 c2
    refine m_fails (v := 0) (by decide) (fun _ => ⟨rfl, zero_eq ?_⟩) (fun c => absurd c (by decide))
    refine lpI (F := wpF_X5_longestRest_17 K) (fun k => (zI u, zI (gp a u k).2, zI (gp a u k).1, zI k, st σ 25 7 0)) (fun k => 0 ≤ k) 28 (fun B hP => ?_) (fun k B hk hP hB => ?_) 0 (by decide) (by decide)
    · show wpS_X5_longestRest_17 K B (zI u) _ _ (zI 28) _
      unfold wpS_X5_longestRest_17
      exact ⟨fun _ => h, fun c => absurd (by decide) c⟩
    · show wpS_X5_longestRest_17 K B (zI u) (zI (gp a u k).2) (zI (gp a u k).1) (zI k) _
      unfold wpS_X5_longestRest_17 wpJ_X5_longestRest_41 wpJ_X5_longestRest_49
      rw [zl_28]
      refine br_le (by omega) (by omega) (fun c => absurd c (by omega)) (fun _ => ?_)
      refine m_where (σ := st σ 25 7 0) (u := u) (s := k) hG hW ⟨c1, by omega⟩ (by omega) ?_
      have hr := held_rng a u k
      have hg := gp_rng a u hP
      have hB := hB (by omega)
      rw [gp_s a u hP] at hB
      refine br_ge0 (by omega) (fun c => ?_) (fun c => ?_)
      · rw [if_neg (by omega)] at hB
        refine ⟨fun _ v hv => ?_, fun c9 v hv => ?_⟩
        · subst hv
          rw [zl_1, zI_add]
          rw [if_neg (by omega)] at hB
          exact hB
        · exfalso
          rw [zl_0, zI_le (by omega) (by omega) (by omega) (by omega)] at c9
          omega
      · rw [if_pos (by omega)] at hB
        rw [zl_1, zI_add, zI_add]
        refine br_le (by omega) (by omega) (fun c9 v hv => ?_) (fun c9 v hv => ?_)
        · subst hv
          rw [if_neg (by omega)] at hB
          exact hB
        · subst hv
          rw [if_pos (by omega)] at hB
          exact hB
  · exact m_fails (v := 1) (by decide) (fun c9 => absurd c9 (by decide)) (fun _ => ⟨rfl, one_ne (h0 c)⟩)
end CT2
