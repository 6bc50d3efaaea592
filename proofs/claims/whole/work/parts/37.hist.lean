/-! rows kept, and the ring -/
def cpk (c d : Nat → Int32) (p q k : Int) : Nat → Int32 := fun i => if q.toNat ≤ i ∧ i < q.toNat + k.toNat then c (p.toNat + (i - q.toNat)) else d i
theorem cpk_0 (c d : Nat → Int32) (p q : Int) : cpk c d p q 0 = d := by
  funext i
  unfold cpk
  rw [if_neg (by omega)]
theorem cpk_in {c d : Nat → Int32} {p q : Int} {j : Nat} (hj : j < 179) (_ : 0 ≤ q) : cpk c d p q 179 (q.toNat + j) = c (p.toNat + j) := by
  unfold cpk
  rw [if_pos (by omega)]
  congr 1
  omega
theorem cpk_out {c d : Nat → Int32} {p q : Int} {i : Nat} (hi : i < q.toNat ∨ q.toNat + 179 ≤ i) (_ : 0 ≤ q) : cpk c d p q 179 i = d i := by
  unfold cpk
  rw [if_neg (by omega)]
theorem cpk_s {c d : Nat → Int32} {p q k : Int} (hk : 0 ≤ k) (hp : 0 ≤ p) (hq : 0 ≤ q) : upd (cpk c d p q k) (q + k).toNat (c (p + k).toNat) = cpk c d p q (k + 1) := by
  funext i
  unfold upd cpk
  by_cases h : i = (q + k).toNat
  · rw [if_pos h, if_pos (by omega)]
    congr 1
    omega
  · rw [if_neg h]
    by_cases h2 : q.toNat ≤ i ∧ i < q.toNat + k.toNat
    · rw [if_pos h2, if_pos (by omega)]
    · rw [if_neg h2, if_neg (by omega)]
theorem fa_upd2 (f : Nat → Int32) (i : Nat) (x y : Int32) : upd (upd f i x) i y = upd f i y := by
  funext j
  unfold upd
  by_cases h : j = i
  · rw [if_pos h, if_pos h]
  · rw [if_neg h, if_neg h, if_neg h]
def shk (f : Nat → Int32) (k : Int) : Nat → Int32 := fun i => if i < k.toNat then f (i + 179) else f i
theorem shk_0 (f : Nat → Int32) : shk f 0 = f := by
  funext i
  unfold shk
  rw [if_neg (by omega)]
theorem shk_s {f : Nat → Int32} {k : Int} (hk : 0 ≤ k) : upd (shk f k) k.toNat (shk f k (k + 179).toNat) = shk f (k + 1) := by
  funext i
  unfold upd shk
  by_cases h : i = k.toNat
  · rw [if_pos h, if_neg (by omega), if_pos (by omega)]
    congr 1
    omega
  · rw [if_neg h]
    by_cases h2 : i < k.toNat
    · rw [if_pos h2, if_pos (by omega)]
    · rw [if_neg h2, if_neg (by omega)]
/-- how the kept rows are after one more -/
def KP (m : Int) (f kp row : Nat → Int32) : Prop := (∀ i j : Nat, (i : Int) < (if m = 8 then 7 else m) → j < 179 → f (179 * i + j) = kp (179 * (i + (if m = 8 then 1 else 0)) + j)) ∧ ∀ j : Nat, j < 179 → f (179 * (if m = 8 then 7 else m).toNat + j) = row j
theorem m_copies_26_27 {σ : Mem} {K : Mem → Prop} {p q : Int} (hp : 0 ≤ p ∧ p + 179 ≤ 179) (hq : 0 ≤ q ∧ q + 179 ≤ 1432) (h : ∀ f : Nat → Int32, (∀ j : Nat, j < 179 → f (q.toNat + j) = σ 26 (p.toNat + j)) → (∀ i : Nat, (i < q.toNat ∨ q.toNat + 179 ≤ i) → f i = σ 27 i) → K (va_up σ 27 f)) : wp_X5_copies_26_27 (zI p) (zI q) σ K := by
  have h := h (cpk (σ 26) (σ 27) p q 179) (fun j hj => cpk_in (by omega) (by omega)) (fun i hi => cpk_out (by omega) (by omega))
  unfold wp_X5_copies_26_27
  have h9 := lpI (F := wpF_X5_copies_26_27_3 K) (fun k => (zI p, zI q, zI k, va_up σ 27 (cpk (σ 26) (σ 27) p q k))) (fun k => 0 ≤ k) 179 (fun B hP => ?_) (fun k B hk hP hB => ?_) 0 (by decide) (by decide)
  · rw [cpk_0, up_s] at h9
    exact h9
  · show wpS_X5_copies_26_27_3 K B (zI p) (zI q) (zI 179) _
    unfold wpS_X5_copies_26_27_3
    exact ⟨fun _ => h, fun c => absurd (by decide) c⟩
  · show wpS_X5_copies_26_27_3 K B (zI p) (zI q) (zI k) (va_up σ 27 (cpk (σ 26) (σ 27) p q k))
    unfold wpS_X5_copies_26_27_3
    have hB := hB (by omega)
    rw [zl_179, zl_1, zI_add, zI_add, zI_add, zI_nat (by omega) (by omega), zI_nat (by omega) (by omega)]
    refine br_le (by decide) (by omega) (fun c => absurd c (by omega)) (fun _ => ⟨zI_in (by omega) (by omega) (by decide), zI_in (by omega) (by omega) (by decide), fun σ2 e v hv => ?_⟩)
    subst e; subst hv
    rw [va_up_ne _ _ (show (26 : Nat) ≠ 27 by decide), st_u, cpk_s hP hp.1 hq.1]
    exact hB
theorem m_copies_29_27 {σ : Mem} {K : Mem → Prop} {p q : Int} (hp : 0 ≤ p ∧ p + 179 ≤ 179) (hq : 0 ≤ q ∧ q + 179 ≤ 1432) (h : ∀ f : Nat → Int32, (∀ j : Nat, j < 179 → f (q.toNat + j) = σ 29 (p.toNat + j)) → (∀ i : Nat, (i < q.toNat ∨ q.toNat + 179 ≤ i) → f i = σ 27 i) → K (va_up σ 27 f)) : wp_X5_copies_29_27 (zI p) (zI q) σ K := by
  have h := h (cpk (σ 29) (σ 27) p q 179) (fun j hj => cpk_in (by omega) (by omega)) (fun i hi => cpk_out (by omega) (by omega))
  unfold wp_X5_copies_29_27
  have h9 := lpI (F := wpF_X5_copies_29_27_3 K) (fun k => (zI p, zI q, zI k, va_up σ 27 (cpk (σ 29) (σ 27) p q k))) (fun k => 0 ≤ k) 179 (fun B hP => ?_) (fun k B hk hP hB => ?_) 0 (by decide) (by decide)
  · rw [cpk_0, up_s] at h9
    exact h9
  · show wpS_X5_copies_29_27_3 K B (zI p) (zI q) (zI 179) _
    unfold wpS_X5_copies_29_27_3
    exact ⟨fun _ => h, fun c => absurd (by decide) c⟩
  · show wpS_X5_copies_29_27_3 K B (zI p) (zI q) (zI k) (va_up σ 27 (cpk (σ 29) (σ 27) p q k))
    unfold wpS_X5_copies_29_27_3
    have hB := hB (by omega)
    rw [zl_179, zl_1, zI_add, zI_add, zI_add, zI_nat (by omega) (by omega), zI_nat (by omega) (by omega)]
    refine br_le (by decide) (by omega) (fun c => absurd c (by omega)) (fun _ => ⟨zI_in (by omega) (by omega) (by decide), zI_in (by omega) (by omega) (by decide), fun σ2 e v hv => ?_⟩)
    subst e; subst hv
    rw [va_up_ne _ _ (show (29 : Nat) ≠ 27 by decide), st_u, cpk_s hP hp.1 hq.1]
    exact hB
theorem m_copies_26_28 {σ : Mem} {K : Mem → Prop} {p q : Int} (hp : 0 ≤ p ∧ p + 179 ≤ 179) (hq : 0 ≤ q ∧ q + 179 ≤ 179) (h : ∀ f : Nat → Int32, (∀ j : Nat, j < 179 → f (q.toNat + j) = σ 26 (p.toNat + j)) → (∀ i : Nat, (i < q.toNat ∨ q.toNat + 179 ≤ i) → f i = σ 28 i) → K (va_up σ 28 f)) : wp_X5_copies_26_28 (zI p) (zI q) σ K := by
  have h := h (cpk (σ 26) (σ 28) p q 179) (fun j hj => cpk_in (by omega) (by omega)) (fun i hi => cpk_out (by omega) (by omega))
  unfold wp_X5_copies_26_28
  have h9 := lpI (F := wpF_X5_copies_26_28_3 K) (fun k => (zI p, zI q, zI k, va_up σ 28 (cpk (σ 26) (σ 28) p q k))) (fun k => 0 ≤ k) 179 (fun B hP => ?_) (fun k B hk hP hB => ?_) 0 (by decide) (by decide)
  · rw [cpk_0, up_s] at h9
    exact h9
  · show wpS_X5_copies_26_28_3 K B (zI p) (zI q) (zI 179) _
    unfold wpS_X5_copies_26_28_3
    exact ⟨fun _ => h, fun c => absurd (by decide) c⟩
  · show wpS_X5_copies_26_28_3 K B (zI p) (zI q) (zI k) (va_up σ 28 (cpk (σ 26) (σ 28) p q k))
    unfold wpS_X5_copies_26_28_3
    have hB := hB (by omega)
    rw [zl_179, zl_1, zI_add, zI_add, zI_add, zI_nat (by omega) (by omega), zI_nat (by omega) (by omega)]
    refine br_le (by decide) (by omega) (fun c => absurd c (by omega)) (fun _ => ⟨zI_in (by omega) (by omega) (by decide), zI_in (by omega) (by omega) (by decide), fun σ2 e v hv => ?_⟩)
    subst e; subst hv
    rw [va_up_ne _ _ (show (26 : Nat) ≠ 28 by decide), st_u, cpk_s hP hp.1 hq.1]
    exact hB
theorem m_copies_28_26 {σ : Mem} {K : Mem → Prop} {p q : Int} (hp : 0 ≤ p ∧ p + 179 ≤ 179) (hq : 0 ≤ q ∧ q + 179 ≤ 179) (h : ∀ f : Nat → Int32, (∀ j : Nat, j < 179 → f (q.toNat + j) = σ 28 (p.toNat + j)) → (∀ i : Nat, (i < q.toNat ∨ q.toNat + 179 ≤ i) → f i = σ 26 i) → K (va_up σ 26 f)) : wp_X5_copies_28_26 (zI p) (zI q) σ K := by
  have h := h (cpk (σ 28) (σ 26) p q 179) (fun j hj => cpk_in (by omega) (by omega)) (fun i hi => cpk_out (by omega) (by omega))
  unfold wp_X5_copies_28_26
  have h9 := lpI (F := wpF_X5_copies_28_26_3 K) (fun k => (zI p, zI q, zI k, va_up σ 26 (cpk (σ 28) (σ 26) p q k))) (fun k => 0 ≤ k) 179 (fun B hP => ?_) (fun k B hk hP hB => ?_) 0 (by decide) (by decide)
  · rw [cpk_0, up_s] at h9
    exact h9
  · show wpS_X5_copies_28_26_3 K B (zI p) (zI q) (zI 179) _
    unfold wpS_X5_copies_28_26_3
    exact ⟨fun _ => h, fun c => absurd (by decide) c⟩
  · show wpS_X5_copies_28_26_3 K B (zI p) (zI q) (zI k) (va_up σ 26 (cpk (σ 28) (σ 26) p q k))
    unfold wpS_X5_copies_28_26_3
    have hB := hB (by omega)
    rw [zl_179, zl_1, zI_add, zI_add, zI_add, zI_nat (by omega) (by omega), zI_nat (by omega) (by omega)]
    refine br_le (by decide) (by omega) (fun c => absurd c (by omega)) (fun _ => ⟨zI_in (by omega) (by omega) (by decide), zI_in (by omega) (by omega) (by decide), fun σ2 e v hv => ?_⟩)
    subst e; subst hv
    rw [va_up_ne _ _ (show (28 : Nat) ≠ 26 by decide), st_u, cpk_s hP hp.1 hq.1]
    exact hB
theorem m_copies_26_29 {σ : Mem} {K : Mem → Prop} {p q : Int} (hp : 0 ≤ p ∧ p + 179 ≤ 179) (hq : 0 ≤ q ∧ q + 179 ≤ 179) (h : ∀ f : Nat → Int32, (∀ j : Nat, j < 179 → f (q.toNat + j) = σ 26 (p.toNat + j)) → (∀ i : Nat, (i < q.toNat ∨ q.toNat + 179 ≤ i) → f i = σ 29 i) → K (va_up σ 29 f)) : wp_X5_copies_26_29 (zI p) (zI q) σ K := by
  have h := h (cpk (σ 26) (σ 29) p q 179) (fun j hj => cpk_in (by omega) (by omega)) (fun i hi => cpk_out (by omega) (by omega))
  unfold wp_X5_copies_26_29
  have h9 := lpI (F := wpF_X5_copies_26_29_3 K) (fun k => (zI p, zI q, zI k, va_up σ 29 (cpk (σ 26) (σ 29) p q k))) (fun k => 0 ≤ k) 179 (fun B hP => ?_) (fun k B hk hP hB => ?_) 0 (by decide) (by decide)
  · rw [cpk_0, up_s] at h9
    exact h9
  · show wpS_X5_copies_26_29_3 K B (zI p) (zI q) (zI 179) _
    unfold wpS_X5_copies_26_29_3
    exact ⟨fun _ => h, fun c => absurd (by decide) c⟩
  · show wpS_X5_copies_26_29_3 K B (zI p) (zI q) (zI k) (va_up σ 29 (cpk (σ 26) (σ 29) p q k))
    unfold wpS_X5_copies_26_29_3
    have hB := hB (by omega)
    rw [zl_179, zl_1, zI_add, zI_add, zI_add, zI_nat (by omega) (by omega), zI_nat (by omega) (by omega)]
    refine br_le (by decide) (by omega) (fun c => absurd c (by omega)) (fun _ => ⟨zI_in (by omega) (by omega) (by decide), zI_in (by omega) (by omega) (by decide), fun σ2 e v hv => ?_⟩)
    subst e; subst hv
    rw [va_up_ne _ _ (show (26 : Nat) ≠ 29 by decide), st_u, cpk_s hP hp.1 hq.1]
    exact hB
theorem m_copies_29_26 {σ : Mem} {K : Mem → Prop} {p q : Int} (hp : 0 ≤ p ∧ p + 179 ≤ 179) (hq : 0 ≤ q ∧ q + 179 ≤ 179) (h : ∀ f : Nat → Int32, (∀ j : Nat, j < 179 → f (q.toNat + j) = σ 29 (p.toNat + j)) → (∀ i : Nat, (i < q.toNat ∨ q.toNat + 179 ≤ i) → f i = σ 26 i) → K (va_up σ 26 f)) : wp_X5_copies_29_26 (zI p) (zI q) σ K := by
  have h := h (cpk (σ 29) (σ 26) p q 179) (fun j hj => cpk_in (by omega) (by omega)) (fun i hi => cpk_out (by omega) (by omega))
  unfold wp_X5_copies_29_26
  have h9 := lpI (F := wpF_X5_copies_29_26_3 K) (fun k => (zI p, zI q, zI k, va_up σ 26 (cpk (σ 29) (σ 26) p q k))) (fun k => 0 ≤ k) 179 (fun B hP => ?_) (fun k B hk hP hB => ?_) 0 (by decide) (by decide)
  · rw [cpk_0, up_s] at h9
    exact h9
  · show wpS_X5_copies_29_26_3 K B (zI p) (zI q) (zI 179) _
    unfold wpS_X5_copies_29_26_3
    exact ⟨fun _ => h, fun c => absurd (by decide) c⟩
  · show wpS_X5_copies_29_26_3 K B (zI p) (zI q) (zI k) (va_up σ 26 (cpk (σ 29) (σ 26) p q k))
    unfold wpS_X5_copies_29_26_3
    have hB := hB (by omega)
    rw [zl_179, zl_1, zI_add, zI_add, zI_add, zI_nat (by omega) (by omega), zI_nat (by omega) (by omega)]
    refine br_le (by decide) (by omega) (fun c => absurd c (by omega)) (fun _ => ⟨zI_in (by omega) (by omega) (by decide), zI_in (by omega) (by omega) (by decide), fun σ2 e v hv => ?_⟩)
    subst e; subst hv
    rw [va_up_ne _ _ (show (29 : Nat) ≠ 26 by decide), st_u, cpk_s hP hp.1 hq.1]
    exact hB
theorem m_copies_27_26 {σ : Mem} {K : Mem → Prop} {p q : Int} (hp : 0 ≤ p ∧ p + 179 ≤ 1432) (hq : 0 ≤ q ∧ q + 179 ≤ 179) (h : ∀ f : Nat → Int32, (∀ j : Nat, j < 179 → f (q.toNat + j) = σ 27 (p.toNat + j)) → (∀ i : Nat, (i < q.toNat ∨ q.toNat + 179 ≤ i) → f i = σ 26 i) → K (va_up σ 26 f)) : wp_X5_copies_27_26 (zI p) (zI q) σ K := by
  have h := h (cpk (σ 27) (σ 26) p q 179) (fun j hj => cpk_in (by omega) (by omega)) (fun i hi => cpk_out (by omega) (by omega))
  unfold wp_X5_copies_27_26
  have h9 := lpI (F := wpF_X5_copies_27_26_3 K) (fun k => (zI p, zI q, zI k, va_up σ 26 (cpk (σ 27) (σ 26) p q k))) (fun k => 0 ≤ k) 179 (fun B hP => ?_) (fun k B hk hP hB => ?_) 0 (by decide) (by decide)
  · rw [cpk_0, up_s] at h9
    exact h9
  · show wpS_X5_copies_27_26_3 K B (zI p) (zI q) (zI 179) _
    unfold wpS_X5_copies_27_26_3
    exact ⟨fun _ => h, fun c => absurd (by decide) c⟩
  · show wpS_X5_copies_27_26_3 K B (zI p) (zI q) (zI k) (va_up σ 26 (cpk (σ 27) (σ 26) p q k))
    unfold wpS_X5_copies_27_26_3
    have hB := hB (by omega)
    rw [zl_179, zl_1, zI_add, zI_add, zI_add, zI_nat (by omega) (by omega), zI_nat (by omega) (by omega)]
    refine br_le (by decide) (by omega) (fun c => absurd c (by omega)) (fun _ => ⟨zI_in (by omega) (by omega) (by decide), zI_in (by omega) (by omega) (by decide), fun σ2 e v hv => ?_⟩)
    subst e; subst hv
    rw [va_up_ne _ _ (show (27 : Nat) ≠ 26 by decide), st_u, cpk_s hP hp.1 hq.1]
    exact hB
theorem m_keeps_26 {σ : Mem} {K : Mem → Prop} {m : Int} (hw : σ 25 6 = 0) (hm : σ 25 5 = zI m) (hm1 : 0 ≤ m ∧ m ≤ 8) (h : ∀ f : Nat → Int32, KP m f (σ 27) (σ 26) → K (st (va_up (st σ 25 7 0) 27 f) 25 5 (zI (if m + 1 < 8 then m + 1 else 8)))) : wp_X5_keeps_26 σ K := by
  unfold wp_X5_keeps_26 wpJ_X5_keeps_26_63
  intro σ1 e1
  subst e1
  rw [st_j _ _ _ (show (6 : Nat) ≠ 7 by decide), st_j _ _ _ (show (5 : Nat) ≠ 7 by decide), hw, hm]
  refine ⟨fun _ => ?_, fun c => absurd rfl c⟩
  rw [show (8 : Int32) = zI 8 from zl_8]
  refine br_ne (by omega) (by decide) (fun c => ?_) (fun c => ?_)
  · subst c
    have h9 := lpI (F := wpF_X5_keeps_26_24 K) (fun k => (zI k, va_up (st σ 25 7 0) 27 (shk (σ 27) k))) (fun k => 0 ≤ k) 1253 (fun B hP => ?_) (fun k B hk hP hB => ?_) 0 (by decide) (by decide)
    · rw [shk_0] at h9
      have e : va_up (st σ 25 7 0) 27 (σ 27) = st σ 25 7 0 := up_s (st σ 25 7 0) 27
      rw [e] at h9
      exact h9
    · show wpS_X5_keeps_26_24 K B (zI 1253) (va_up (st σ 25 7 0) 27 (shk (σ 27) 1253))
      unfold wpS_X5_keeps_26_24 wpJ_X5_keeps_26_53
      refine ⟨fun _ σ7 e7 => ?_, fun c => absurd (by decide) c⟩
      subst e7
      unfold wpJ_X5_keeps_26_63
      have e5 : (va_up (st σ 25 7 0) 27 (shk (σ 27) 1253)) 25 5 = zI 8 := hm
      rw [st_e, e5, zl_1, zI_sub, zl_179, zI_mul]
      refine m_copies_26_27 (p := 0) (q := 179 * (8 - 1)) (by decide) (by decide) (fun f h1 h2 σ5 e => ?_)
      subst e
      have h := h f ⟨fun i j hi hj => ?_, fun j hj => ?_⟩
      · have ee : st (va_up (st (va_up (st σ 25 7 0) 27 (shk (σ 27) 1253)) 25 5 (zI (8 - 1))) 27 f) 25 5 (zI (8 - 1) + zI 1) = st (va_up (st σ 25 7 0) 27 f) 25 5 (zI (if (8 : Int) + 1 < 8 then 8 + 1 else 8)) := by
          funext d
          by_cases d25 : d = 25
          · subst d25
            show upd (upd (st σ 25 7 0 25) 5 _) 5 (zI (8 - 1) + zI 1) = upd (st σ 25 7 0 25) 5 _
            rw [fa_upd2]
            rfl
          · rw [st_c _ _ _ d25, st_c _ _ _ d25]
            by_cases d27 : d = 27
            · subst d27; rw [va_up_self, va_up_self]
            · rw [va_up_ne _ _ d27, va_up_ne _ _ d27, st_c _ _ _ d25, va_up_ne _ _ d27]
        have e6 : (va_up (st (va_up (st σ 25 7 0) 27 (shk (σ 27) 1253)) 25 5 (zI (8 - 1))) 27 f) 25 5 = zI (8 - 1) := st_e (va_up (st σ 25 7 0) 27 (shk (σ 27) 1253)) 25 5 _
        rw [e6, ee]
        exact h
      · have hi : (i : Int) < 7 := hi
        rw [h2 _ (by left; show 179 * i + j < 1253; omega)]
        show shk (σ 27) 1253 (179 * i + j) = σ 27 (179 * (i + 1) + j)
        unfold shk
        rw [if_pos (by omega)]
        congr 1
        omega
      · have e1 : f (1253 + j) = σ 26 (0 + j) := h1 j hj
        rw [Nat.zero_add] at e1
        exact e1
    · show wpS_X5_keeps_26_24 K B (zI k) (va_up (st σ 25 7 0) 27 (shk (σ 27) k))
      unfold wpS_X5_keeps_26_24
      have hB := hB (by omega)
      rw [zl_1253, zl_1, zl_179, zI_add, zI_add, zI_nat (by omega) (by omega), zI_nat (by omega) (by omega)]
      refine br_le (by decide) (by omega) (fun c => absurd c (by omega)) (fun _ => ⟨zI_in (by omega) (by omega) (by decide), zI_in (by omega) (by omega) (by decide), fun σ2 e v hv => ?_⟩)
      subst e; subst hv
      rw [va_up_self, st_u, shk_s hP]
      exact hB
  · rw [zl_179, zI_mul]
    refine m_copies_26_27 (p := 0) (q := 179 * m) (by decide) (by omega) (fun f h1 h2 σ5 e => ?_)
    subst e
    have e5 : (va_up (st σ 25 7 0) 27 f) 25 5 = zI m := hm
    rw [e5, zl_1, zI_add]
    have h := h f ⟨fun i j hi hj => ?_, fun j hj => ?_⟩
    · rwa [show (if m + 1 < 8 then m + 1 else 8) = m + 1 by by_cases c9 : m + 1 < 8; exact if_pos c9; rw [if_neg c9]; omega] at h
    · rw [if_neg c] at hi ⊢
      rw [h2 _ (by left; omega)]
      show σ 27 _ = _
      congr 1
    · rw [if_neg c]
      have e1 : f ((179 * m).toNat + j) = σ 26 (0 + j) := h1 j hj
      rw [Nat.zero_add, show (179 * m).toNat + j = 179 * m.toNat + j by omega] at e1
      exact e1
theorem m_keeps_29 {σ : Mem} {K : Mem → Prop} {m : Int} (hw : σ 25 6 = 0) (hm : σ 25 5 = zI m) (hm1 : 0 ≤ m ∧ m ≤ 8) (h : ∀ f : Nat → Int32, KP m f (σ 27) (σ 29) → K (st (va_up (st σ 25 7 0) 27 f) 25 5 (zI (if m + 1 < 8 then m + 1 else 8)))) : wp_X5_keeps_29 σ K := by
  unfold wp_X5_keeps_29 wpJ_X5_keeps_29_63
  intro σ1 e1
  subst e1
  rw [st_j _ _ _ (show (6 : Nat) ≠ 7 by decide), st_j _ _ _ (show (5 : Nat) ≠ 7 by decide), hw, hm]
  refine ⟨fun _ => ?_, fun c => absurd rfl c⟩
  rw [show (8 : Int32) = zI 8 from zl_8]
  refine br_ne (by omega) (by decide) (fun c => ?_) (fun c => ?_)
  · subst c
    have h9 := lpI (F := wpF_X5_keeps_29_24 K) (fun k => (zI k, va_up (st σ 25 7 0) 27 (shk (σ 27) k))) (fun k => 0 ≤ k) 1253 (fun B hP => ?_) (fun k B hk hP hB => ?_) 0 (by decide) (by decide)
    · rw [shk_0] at h9
      have e : va_up (st σ 25 7 0) 27 (σ 27) = st σ 25 7 0 := up_s (st σ 25 7 0) 27
      rw [e] at h9
      exact h9
    · show wpS_X5_keeps_29_24 K B (zI 1253) (va_up (st σ 25 7 0) 27 (shk (σ 27) 1253))
      unfold wpS_X5_keeps_29_24 wpJ_X5_keeps_29_53
      refine ⟨fun _ σ7 e7 => ?_, fun c => absurd (by decide) c⟩
      subst e7
      unfold wpJ_X5_keeps_29_63
      have e5 : (va_up (st σ 25 7 0) 27 (shk (σ 27) 1253)) 25 5 = zI 8 := hm
      rw [st_e, e5, zl_1, zI_sub, zl_179, zI_mul]
      refine m_copies_29_27 (p := 0) (q := 179 * (8 - 1)) (by decide) (by decide) (fun f h1 h2 σ5 e => ?_)
      subst e
      have h := h f ⟨fun i j hi hj => ?_, fun j hj => ?_⟩
      · have ee : st (va_up (st (va_up (st σ 25 7 0) 27 (shk (σ 27) 1253)) 25 5 (zI (8 - 1))) 27 f) 25 5 (zI (8 - 1) + zI 1) = st (va_up (st σ 25 7 0) 27 f) 25 5 (zI (if (8 : Int) + 1 < 8 then 8 + 1 else 8)) := by
          funext d
          by_cases d25 : d = 25
          · subst d25
            show upd (upd (st σ 25 7 0 25) 5 _) 5 (zI (8 - 1) + zI 1) = upd (st σ 25 7 0 25) 5 _
            rw [fa_upd2]
            rfl
          · rw [st_c _ _ _ d25, st_c _ _ _ d25]
            by_cases d27 : d = 27
            · subst d27; rw [va_up_self, va_up_self]
            · rw [va_up_ne _ _ d27, va_up_ne _ _ d27, st_c _ _ _ d25, va_up_ne _ _ d27]
        have e6 : (va_up (st (va_up (st σ 25 7 0) 27 (shk (σ 27) 1253)) 25 5 (zI (8 - 1))) 27 f) 25 5 = zI (8 - 1) := st_e (va_up (st σ 25 7 0) 27 (shk (σ 27) 1253)) 25 5 _
        rw [e6, ee]
        exact h
      · have hi : (i : Int) < 7 := hi
        rw [h2 _ (by left; show 179 * i + j < 1253; omega)]
        show shk (σ 27) 1253 (179 * i + j) = σ 27 (179 * (i + 1) + j)
        unfold shk
        rw [if_pos (by omega)]
        congr 1
        omega
      · have e1 : f (1253 + j) = σ 29 (0 + j) := h1 j hj
        rw [Nat.zero_add] at e1
        exact e1
    · show wpS_X5_keeps_29_24 K B (zI k) (va_up (st σ 25 7 0) 27 (shk (σ 27) k))
      unfold wpS_X5_keeps_29_24
      have hB := hB (by omega)
      rw [zl_1253, zl_1, zl_179, zI_add, zI_add, zI_nat (by omega) (by omega), zI_nat (by omega) (by omega)]
      refine br_le (by decide) (by omega) (fun c => absurd c (by omega)) (fun _ => ⟨zI_in (by omega) (by omega) (by decide), zI_in (by omega) (by omega) (by decide), fun σ2 e v hv => ?_⟩)
      subst e; subst hv
      rw [va_up_self, st_u, shk_s hP]
      exact hB
  · rw [zl_179, zI_mul]
    refine m_copies_29_27 (p := 0) (q := 179 * m) (by decide) (by omega) (fun f h1 h2 σ5 e => ?_)
    subst e
    have e5 : (va_up (st σ 25 7 0) 27 f) 25 5 = zI m := hm
    rw [e5, zl_1, zI_add]
    have h := h f ⟨fun i j hi hj => ?_, fun j hj => ?_⟩
    · rwa [show (if m + 1 < 8 then m + 1 else 8) = m + 1 by by_cases c9 : m + 1 < 8; exact if_pos c9; rw [if_neg c9]; omega] at h
    · rw [if_neg c] at hi ⊢
      rw [h2 _ (by left; omega)]
      show σ 27 _ = _
      congr 1
    · rw [if_neg c]
      have e1 : f ((179 * m).toNat + j) = σ 29 (0 + j) := h1 j hj
      rw [Nat.zero_add, show (179 * m).toNat + j = 179 * m.toNat + j by omega] at e1
      exact e1
theorem zI_min {x y : Int} (h1 : -2147483648 ≤ x ∧ x < 2147483648) (h2 : -2147483648 ≤ y ∧ y < 2147483648) : (if zI x < zI y then zI x else zI y) = zI (if x < y then x else y) := by
  by_cases h : x < y
  · rw [if_pos h, if_pos ((zI_lt h1.1 h1.2 h2.1 h2.2).mpr h)]
  · rw [if_neg h, if_neg (fun c => h ((zI_lt h1.1 h1.2 h2.1 h2.2).mp c))]
/-- the ring, other rows in it -/
def wr (σ : Mem) (R : Nat → Nat → Int32) : Mem := fun c => match c with
  | 6 => R 0 | 7 => R 1 | 8 => R 2 | 9 => R 3 | 10 => R 4 | 11 => R 5 | 12 => R 6 | 13 => R 7 | 14 => R 8 | c => σ c
def Rn (σ : Mem) (n : Nat) : Nat → Nat → Int32 := fun k => if k = n then va_cpy (σ 2) (ring σ n) 0 0 179 else ring σ k
theorem wr_0 (σ : Mem) : cp σ 2 6 = wr σ (Rn σ 0) := by
  funext c
  match c with
  | 0 => rfl
  | 1 => rfl
  | 2 => rfl
  | 3 => rfl
  | 4 => rfl
  | 5 => rfl
  | 6 => rfl
  | 7 => rfl
  | 8 => rfl
  | 9 => rfl
  | 10 => rfl
  | 11 => rfl
  | 12 => rfl
  | 13 => rfl
  | 14 => rfl
  | c + 15 => rfl
theorem wr_1 (σ : Mem) : cp σ 2 7 = wr σ (Rn σ 1) := by
  funext c
  match c with
  | 0 => rfl
  | 1 => rfl
  | 2 => rfl
  | 3 => rfl
  | 4 => rfl
  | 5 => rfl
  | 6 => rfl
  | 7 => rfl
  | 8 => rfl
  | 9 => rfl
  | 10 => rfl
  | 11 => rfl
  | 12 => rfl
  | 13 => rfl
  | 14 => rfl
  | c + 15 => rfl
theorem wr_2 (σ : Mem) : cp σ 2 8 = wr σ (Rn σ 2) := by
  funext c
  match c with
  | 0 => rfl
  | 1 => rfl
  | 2 => rfl
  | 3 => rfl
  | 4 => rfl
  | 5 => rfl
  | 6 => rfl
  | 7 => rfl
  | 8 => rfl
  | 9 => rfl
  | 10 => rfl
  | 11 => rfl
  | 12 => rfl
  | 13 => rfl
  | 14 => rfl
  | c + 15 => rfl
theorem wr_3 (σ : Mem) : cp σ 2 9 = wr σ (Rn σ 3) := by
  funext c
  match c with
  | 0 => rfl
  | 1 => rfl
  | 2 => rfl
  | 3 => rfl
  | 4 => rfl
  | 5 => rfl
  | 6 => rfl
  | 7 => rfl
  | 8 => rfl
  | 9 => rfl
  | 10 => rfl
  | 11 => rfl
  | 12 => rfl
  | 13 => rfl
  | 14 => rfl
  | c + 15 => rfl
theorem wr_4 (σ : Mem) : cp σ 2 10 = wr σ (Rn σ 4) := by
  funext c
  match c with
  | 0 => rfl
  | 1 => rfl
  | 2 => rfl
  | 3 => rfl
  | 4 => rfl
  | 5 => rfl
  | 6 => rfl
  | 7 => rfl
  | 8 => rfl
  | 9 => rfl
  | 10 => rfl
  | 11 => rfl
  | 12 => rfl
  | 13 => rfl
  | 14 => rfl
  | c + 15 => rfl
theorem wr_5 (σ : Mem) : cp σ 2 11 = wr σ (Rn σ 5) := by
  funext c
  match c with
  | 0 => rfl
  | 1 => rfl
  | 2 => rfl
  | 3 => rfl
  | 4 => rfl
  | 5 => rfl
  | 6 => rfl
  | 7 => rfl
  | 8 => rfl
  | 9 => rfl
  | 10 => rfl
  | 11 => rfl
  | 12 => rfl
  | 13 => rfl
  | 14 => rfl
  | c + 15 => rfl
theorem wr_6 (σ : Mem) : cp σ 2 12 = wr σ (Rn σ 6) := by
  funext c
  match c with
  | 0 => rfl
  | 1 => rfl
  | 2 => rfl
  | 3 => rfl
  | 4 => rfl
  | 5 => rfl
  | 6 => rfl
  | 7 => rfl
  | 8 => rfl
  | 9 => rfl
  | 10 => rfl
  | 11 => rfl
  | 12 => rfl
  | 13 => rfl
  | 14 => rfl
  | c + 15 => rfl
theorem wr_7 (σ : Mem) : cp σ 2 13 = wr σ (Rn σ 7) := by
  funext c
  match c with
  | 0 => rfl
  | 1 => rfl
  | 2 => rfl
  | 3 => rfl
  | 4 => rfl
  | 5 => rfl
  | 6 => rfl
  | 7 => rfl
  | 8 => rfl
  | 9 => rfl
  | 10 => rfl
  | 11 => rfl
  | 12 => rfl
  | 13 => rfl
  | 14 => rfl
  | c + 15 => rfl
theorem wr_8 (σ : Mem) : cp σ 2 14 = wr σ (Rn σ 8) := by
  funext c
  match c with
  | 0 => rfl
  | 1 => rfl
  | 2 => rfl
  | 3 => rfl
  | 4 => rfl
  | 5 => rfl
  | 6 => rfl
  | 7 => rfl
  | 8 => rfl
  | 9 => rfl
  | 10 => rfl
  | 11 => rfl
  | 12 => rfl
  | 13 => rfl
  | 14 => rfl
  | c + 15 => rfl
theorem Rn_n (σ : Mem) (n : Nat) {j : Nat} (hj : j < 179) : Rn σ n n j = σ 2 j := by
  unfold Rn
  rw [if_pos rfl, pk_cpy_in (by omega) (by omega)]
  congr 1
  omega
theorem Rn_k (σ : Mem) {n k : Nat} (h : k ≠ n) : Rn σ n k = ring σ k := if_neg h
theorem q_begin {σ : Mem} {K : Mem → Prop} {n : Int} (hn : σ 4 1 = zI n) (h0 : 0 ≤ n ∧ n < 9) (h : K (wr σ (Rn σ n.toNat))) : wp_X1_begin σ K := by
  unfold wp_X1_begin
  rw [hn]
  rcases (show n = 0 ∨ n = 1 ∨ n = 2 ∨ n = 3 ∨ n = 4 ∨ n = 5 ∨ n = 6 ∨ n = 7 ∨ n = 8 by omega) with rfl | rfl | rfl | rfl | rfl | rfl | rfl | rfl | rfl
  · exact ⟨fun c => absurd c (by decide), fun _ => ⟨fun c => absurd c (by decide), fun _ => ⟨zI_in (by decide) (by decide) (by decide), fun _ => ⟨fun c => absurd rfl c, fun _ σ2 e => by subst e; rw [wr_0]; exact h⟩, fun c => absurd c (by decide), fun c => absurd c (by decide), fun c => absurd c (by decide), fun c => absurd c (by decide), fun c => absurd c (by decide), fun c => absurd c (by decide), fun c => absurd c (by decide), fun c => absurd c (by decide)⟩⟩⟩
  · exact ⟨fun c => absurd c (by decide), fun _ => ⟨fun c => absurd c (by decide), fun _ => ⟨zI_in (by decide) (by decide) (by decide), fun c => absurd c (by decide), fun _ => ⟨fun c => absurd rfl c, fun _ σ2 e => by subst e; rw [wr_1]; exact h⟩, fun c => absurd c (by decide), fun c => absurd c (by decide), fun c => absurd c (by decide), fun c => absurd c (by decide), fun c => absurd c (by decide), fun c => absurd c (by decide), fun c => absurd c (by decide)⟩⟩⟩
  · exact ⟨fun c => absurd c (by decide), fun _ => ⟨fun c => absurd c (by decide), fun _ => ⟨zI_in (by decide) (by decide) (by decide), fun c => absurd c (by decide), fun c => absurd c (by decide), fun _ => ⟨fun c => absurd rfl c, fun _ σ2 e => by subst e; rw [wr_2]; exact h⟩, fun c => absurd c (by decide), fun c => absurd c (by decide), fun c => absurd c (by decide), fun c => absurd c (by decide), fun c => absurd c (by decide), fun c => absurd c (by decide)⟩⟩⟩
  · exact ⟨fun c => absurd c (by decide), fun _ => ⟨fun c => absurd c (by decide), fun _ => ⟨zI_in (by decide) (by decide) (by decide), fun c => absurd c (by decide), fun c => absurd c (by decide), fun c => absurd c (by decide), fun _ => ⟨fun c => absurd rfl c, fun _ σ2 e => by subst e; rw [wr_3]; exact h⟩, fun c => absurd c (by decide), fun c => absurd c (by decide), fun c => absurd c (by decide), fun c => absurd c (by decide), fun c => absurd c (by decide)⟩⟩⟩
  · exact ⟨fun c => absurd c (by decide), fun _ => ⟨fun c => absurd c (by decide), fun _ => ⟨zI_in (by decide) (by decide) (by decide), fun c => absurd c (by decide), fun c => absurd c (by decide), fun c => absurd c (by decide), fun c => absurd c (by decide), fun _ => ⟨fun c => absurd rfl c, fun _ σ2 e => by subst e; rw [wr_4]; exact h⟩, fun c => absurd c (by decide), fun c => absurd c (by decide), fun c => absurd c (by decide), fun c => absurd c (by decide)⟩⟩⟩
  · exact ⟨fun c => absurd c (by decide), fun _ => ⟨fun c => absurd c (by decide), fun _ => ⟨zI_in (by decide) (by decide) (by decide), fun c => absurd c (by decide), fun c => absurd c (by decide), fun c => absurd c (by decide), fun c => absurd c (by decide), fun c => absurd c (by decide), fun _ => ⟨fun c => absurd rfl c, fun _ σ2 e => by subst e; rw [wr_5]; exact h⟩, fun c => absurd c (by decide), fun c => absurd c (by decide), fun c => absurd c (by decide)⟩⟩⟩
  · exact ⟨fun c => absurd c (by decide), fun _ => ⟨fun c => absurd c (by decide), fun _ => ⟨zI_in (by decide) (by decide) (by decide), fun c => absurd c (by decide), fun c => absurd c (by decide), fun c => absurd c (by decide), fun c => absurd c (by decide), fun c => absurd c (by decide), fun c => absurd c (by decide), fun _ => ⟨fun c => absurd rfl c, fun _ σ2 e => by subst e; rw [wr_6]; exact h⟩, fun c => absurd c (by decide), fun c => absurd c (by decide)⟩⟩⟩
  · exact ⟨fun c => absurd c (by decide), fun _ => ⟨fun c => absurd c (by decide), fun _ => ⟨zI_in (by decide) (by decide) (by decide), fun c => absurd c (by decide), fun c => absurd c (by decide), fun c => absurd c (by decide), fun c => absurd c (by decide), fun c => absurd c (by decide), fun c => absurd c (by decide), fun c => absurd c (by decide), fun _ => ⟨fun c => absurd rfl c, fun _ σ2 e => by subst e; rw [wr_7]; exact h⟩, fun c => absurd c (by decide)⟩⟩⟩
  · exact ⟨fun c => absurd c (by decide), fun _ => ⟨fun c => absurd c (by decide), fun _ => ⟨zI_in (by decide) (by decide) (by decide), fun c => absurd c (by decide), fun c => absurd c (by decide), fun c => absurd c (by decide), fun c => absurd c (by decide), fun c => absurd c (by decide), fun c => absurd c (by decide), fun c => absurd c (by decide), fun c => absurd c (by decide), fun _ => ⟨fun c => absurd rfl c, fun _ σ2 e => by subst e; rw [wr_8]; exact h⟩⟩⟩⟩
theorem q_end {σ : Mem} {K : Mem → Prop} {n m : Int} (hn : σ 4 1 = zI n) (h0 : 0 ≤ n ∧ n < 9) (hm : σ 4 2 = zI m) (h1 : 0 ≤ m ∧ m ≤ 8) (h : K (st (st σ 4 1 (zI (if n + 1 < 9 then n + 1 else 0))) 4 2 (zI (if m + 1 < 8 then m + 1 else 8)))) : wp_X1_end σ K := by
  unfold wp_X1_end wpJ_X1_end_22
  rw [hn, zl_1, zI_add, zl_9]
  have e : ∀ v : Int32, st σ 4 1 v 4 2 = zI m := fun v => by rw [st_j _ _ _ (show (2 : Nat) ≠ 1 by decide)]; exact hm
  refine br_le (by decide) (by omega) (fun c σ2 e2 σ3 e3 => ?_) (fun c σ2 e2 σ3 e3 => ?_)
  · subst e3; subst e2
    rw [e, zI_add, zl_8, zl_0, zI_min (by omega) (by decide)]
    rwa [if_neg (by omega)] at h
  · subst e3; subst e2
    rw [e, zI_add, zl_8, zI_min (by omega) (by decide)]
    rwa [if_pos (by omega)] at h
theorem q_keep {σ : Mem} {K : Mem → Prop} {n m : Int} (hn : σ 4 1 = zI n) (h0 : 0 ≤ n ∧ n < 9) (hm : σ 4 2 = zI m) (h1 : 0 ≤ m ∧ m ≤ 8) (h : K (st (st (wr σ (Rn σ n.toNat)) 4 1 (zI (if n + 1 < 9 then n + 1 else 0))) 4 2 (zI (if m + 1 < 8 then m + 1 else 8)))) : wp_X1_keep σ K := by
  unfold wp_X1_keep
  exact q_begin hn h0 (q_end (σ := wr σ (Rn σ n.toNat)) hn h0 hm h1 h)
theorem RC_cong {a : Nat → Int} {c d : Nat → Int32} (h : RC a c) (e : ∀ j, j < 179 → d j = c j) : RC a d := ⟨fun j hj => by rw [e j (by omega)]; exact h.1 j hj, fun j h1 h2 => by rw [e j h2]; exact h.2 j h1 h2⟩
theorem RG_cong {a : Nat → Int} {c d : Nat → Int32} (h : RG a c) (e : ∀ j, j < 179 → d j = c j) : RG a d :=
  ⟨by rw [e 0 (by decide)]; exact h.1, by rw [e 1 (by decide)]; exact h.2.1, by rw [e 2 (by decide)]; exact h.2.2.1, by rw [e 3 (by decide)]; exact h.2.2.2.1, fun k hk => by rw [e _ (by omega)]; exact h.2.2.2.2.1 k hk, fun k hk => ⟨by rw [e _ (by omega)]; exact (h.2.2.2.2.2.1 k hk).1, by rw [e _ (by omega)]; exact (h.2.2.2.2.2.1 k hk).2.1, by rw [e _ (by omega)]; exact (h.2.2.2.2.2.1 k hk).2.2⟩, fun j h1 h2 => by rw [e j h2]; exact h.2.2.2.2.2.2 j h1 h2⟩
/-- one more row in the ring and among the kept -/
theorem HS_push {σ : Mem} {kp f row : Nat → Int32} {a : Nat → Int} {n m : Int} (h0 : 0 ≤ n ∧ n < 9) (h1 : 0 ≤ m ∧ m ≤ 8) (hs : ∀ i : Int, 0 ≤ i → i < m → ∃ b : Nat → Int, WF b ∧ RC b (ring σ ((n + 9 - m + i) % 9).toNat) ∧ RG b (fun j => kp (179 * i.toNat + j))) (hW : WF a) (hR : RC a (σ 2)) (hG : RG a row) (hf : KP m f kp row) {rg : Nat → Nat → Int32} (hrg : ∀ k, k < 9 → rg k = Rn σ n.toNat k) :
    HS rg (zI (if n + 1 < 9 then n + 1 else 0)) (zI (if m + 1 < 8 then m + 1 else 8)) (zI (if m + 1 < 8 then m + 1 else 8)) f := by
  refine ⟨(if n + 1 < 9 then n + 1 else 0), (if m + 1 < 8 then m + 1 else 8), by split <;> omega, by split <;> omega, rfl, rfl, rfl, fun i hi1 hi2 => ?_⟩
  obtain ⟨f1, f2⟩ := hf
  have en : (if n + 1 < 9 then n + 1 else 0) = (n + 1) % 9 := by split <;> omega
  by_cases hl : i + 1 = (if m + 1 < 8 then m + 1 else 8)
  · refine ⟨a, hW, RC_cong hR (fun j hj => ?_), RG_cong hG (fun j hj => ?_)⟩
    · have ei : (((if n + 1 < 9 then n + 1 else 0) + 9 - (if m + 1 < 8 then m + 1 else 8) + i) % 9).toNat = n.toNat := by rw [← hl, en]; omega
      rw [ei, hrg _ (by omega), Rn_n _ _ hj]
    · have := f2 j hj
      rw [show (if m = 8 then 7 else m).toNat = i.toNat by split at hl <;> split <;> omega] at this
      exact this
  · obtain ⟨b, b1, b2, b3⟩ := hs (i + (if m = 8 then 1 else 0)) (by split <;> omega) (by split at hi2 <;> split at hl <;> split <;> omega)
    refine ⟨b, b1, ?_, RG_cong b3 (fun j hj => ?_)⟩
    · have ei : (((if n + 1 < 9 then n + 1 else 0) + 9 - (if m + 1 < 8 then m + 1 else 8) + i) % 9).toNat = ((n + 9 - m + (i + (if m = 8 then 1 else 0))) % 9).toNat := by
        rw [en]
        split <;> split <;> omega
      have ek : ((n + 9 - m + (i + (if m = 8 then 1 else 0))) % 9).toNat ≠ n.toNat := by
        split at hi2 <;> split at hl <;> split <;> omega
      rw [ei, hrg _ (by omega), Rn_k _ ek]
      exact b2
    · have := f1 i.toNat j (by split at hi2 <;> split at hl <;> split <;> omega) hj
      rw [this]
      show kp _ = kp _
      congr 1
      split <;> omega
