/-! numbers with a point -/
theorem fp_m : ∀ d < 141, ∀ g < 11, 1 ≤ g → ((FP.ddiv (FP.i2d (Int32.ofNat d)) (FP.i2d (Int32.ofNat g))) &&& 0x7fffffffffffffff ≤ 0x7ff0000000000000) ∧ (Op.cmpValue (FP.dcmp (FP.ddiv (FP.i2d (Int32.ofNat d)) (FP.i2d (Int32.ofNat g))) (FP.ddiv (FP.i2d (Int32.ofNat d)) (FP.i2d (Int32.ofNat g)))) .l) = (0 : Int32) := by decide +kernel
theorem fp_c : ∀ d < 141, ∀ g < 6, 1 ≤ g → ((FP.fdiv (FP.i2f (Int32.ofNat d)) (FP.i2f (Int32.ofNat (28 * g)))) &&& 0x7fffffff ≤ 0x7f800000) ∧ ((FP.f2d (FP.fdiv (FP.i2f (Int32.ofNat d)) (FP.i2f (Int32.ofNat (28 * g))))) &&& 0x7fffffffffffffff ≤ 0x7ff0000000000000) ∧ (Op.cmpValue (FP.dcmp (FP.f2d (FP.fdiv (FP.i2f (Int32.ofNat d)) (FP.i2f (Int32.ofNat (28 * g))))) (FP.f2d (FP.fdiv (FP.i2f (Int32.ofNat d)) (FP.i2f (Int32.ofNat (28 * g)))))) .l) = (0 : Int32) := by decide +kernel
theorem fp_m2 {d g : Int} (hd : 0 ≤ d ∧ d ≤ 140) (hg : 1 ≤ g ∧ g ≤ 10) : vf_n64 (FP.ddiv (FP.i2d (zI d)) (FP.i2d (zI g))) ∧ (Op.cmpValue (FP.dcmp (FP.ddiv (FP.i2d (zI d)) (FP.i2d (zI g))) (FP.ddiv (FP.i2d (zI d)) (FP.i2d (zI g)))) .l) = (0 : Int32) := by
  rw [zI_t hd.1, zI_t (show 0 ≤ g by omega)]
  exact fp_m d.toNat (by omega) g.toNat (by omega) (by omega)
theorem fp_c2 {d g : Int} (hd : 0 ≤ d ∧ d ≤ 140) (hg : 1 ≤ g ∧ g ≤ 5) : vf_n32 (FP.fdiv (FP.i2f (zI d)) (FP.i2f (zI (28 * g)))) ∧ vf_n64 (FP.f2d (FP.fdiv (FP.i2f (zI d)) (FP.i2f (zI (28 * g))))) ∧ (Op.cmpValue (FP.dcmp (FP.f2d (FP.fdiv (FP.i2f (zI d)) (FP.i2f (zI (28 * g))))) (FP.f2d (FP.fdiv (FP.i2f (zI d)) (FP.i2f (zI (28 * g)))))) .l) = (0 : Int32) := by
  rw [zI_t hd.1, zI_t (show 0 ≤ 28 * g by omega), show (28 * g).toNat = 28 * g.toNat by omega]
  exact fp_c d.toNat (by omega) g.toNat (by omega) (by omega)
theorem o_35 {σ : Mem} (hI : Inv σ) (a1 a2 a3 a4 : Int32) : wplc_35 a1 a2 a3 a4 σ Inv := by
  obtain ⟨⟨a, hW, hR, hG⟩, hX⟩ := hI
  have hc := hW.c
  have hd := alD_rng hW (f := 0) (by decide)
  unfold wplc_35 wp_L_meanDuties wp_X4_meanDuties
  refine q_guards hR ?_
  refine br_lt (x := 0) (by omega) (by omega) (fun c => ?_) (fun c => ⟨rfl, ?_⟩)
  · have hf := fp_m2 hd (g := a 1) ⟨by omega, by omega⟩
    refine q_allDuties hR hW (f := 0) (by decide) ⟨hf.1, 1, zI (alD a 0), zI (a 1), rfl, fun σ4 e => ?_⟩
    subst e
    unfold wp_X5_meanDuties wpJ_X5_meanDuties_15
    rw [show st (st (st σ 35 0 1) 35 1 (zI (alD a 0))) 35 2 (zI (a 1)) 26 = σ 26 from rfl, hG.2.1]
    refine br_n0 (by omega) (fun c => absurd c (by omega)) (fun _ => m_f0 (zero_eq ?_))
    refine m_allDuties (σ := st (st (st (st σ 35 0 1) 35 1 (zI (alD a 0))) 35 2 (zI (a 1))) 25 7 0) hG hW ?_
    rw [alM_alD hW, show st (st (st (st σ 35 0 1) 35 1 (zI (alD a 0))) 35 2 (zI (a 1))) 25 7 0 26 = σ 26 from rfl, hG.2.1]
    refine ⟨hf.1, ?_⟩
    unfold wp_X5_thrown
    refine ⟨fun _ => ⟨fun c => absurd rfl c, fun _ => ⟨fun _ => ⟨⟨a, hW, hR, hG⟩, hX⟩, fun c => absurd hf.2 c⟩⟩, fun c => absurd rfl c⟩
  · unfold wp_X5_meanDuties wpJ_X5_meanDuties_15
    dsimp only
    rw [hG.2.1]
    refine br_n0 (by omega) (fun c => m_f1 (n := 1) (by decide) (one_ne ?_)) (fun c => absurd c (by omega))
    unfold wp_X5_thrown
    refine ⟨fun _ => ⟨fun _ => ⟨⟨a, hW, hR, hG⟩, hX⟩, fun c => absurd c (by decide)⟩, fun c => absurd rfl c⟩
theorem o_36 {σ : Mem} (hI : Inv σ) (a1 a2 a3 a4 : Int32) : wplc_36 a1 a2 a3 a4 σ Inv := by
  obtain ⟨⟨a, hW, hR, hG⟩, hX⟩ := hI
  have hc := hW.c
  have hd := alD_rng hW (f := 0) (by decide)
  unfold wplc_36 wp_L_coveredFraction wp_X4_coveredFraction
  refine q_gates hR ?_
  rw [zl_28]
  intro v3 e3
  rw [zI_mul] at e3
  subst e3
  refine br_lt (x := 0) (by omega) (by omega) (fun c => ?_) (fun c => ⟨rfl, ?_⟩)
  · have hf := fp_c2 hd (g := a 0) ⟨by omega, by omega⟩
    refine q_allDuties hR hW (f := 0) (by decide) ⟨hf.1, hf.2.1, 2, zI (alD a 0), zI (28 * a 0), rfl, fun σ4 e => ?_⟩
    subst e
    unfold wp_X5_coveredFraction wpJ_X5_coveredFraction_15
    rw [show st (st (st σ 35 0 2) 35 1 (zI (alD a 0))) 35 2 (zI (28 * a 0)) 26 = σ 26 from rfl, hG.1]
    refine br_n0 (by omega) (fun c => absurd c (by omega)) (fun _ => m_f0 (zero_eq ?_))
    refine m_allDuties (σ := st (st (st (st σ 35 0 2) 35 1 (zI (alD a 0))) 35 2 (zI (28 * a 0))) 25 7 0) hG hW ?_
    rw [alM_alD hW, show st (st (st (st σ 35 0 2) 35 1 (zI (alD a 0))) 35 2 (zI (28 * a 0))) 25 7 0 26 = σ 26 from rfl, hG.1, zl_28, zI_mul]
    refine ⟨hf.1, ?_⟩
    unfold wp_X5_thrown
    refine ⟨fun _ => ⟨fun c => absurd rfl c, fun _ => ⟨hf.2.1, fun _ => ⟨⟨a, hW, hR, hG⟩, hX⟩, fun c => absurd hf.2.2 c⟩⟩, fun c => absurd rfl c⟩
  · unfold wp_X5_coveredFraction wpJ_X5_coveredFraction_15
    dsimp only
    rw [hG.1]
    refine br_n0 (by omega) (fun c => m_f1 (n := 1) (by decide) (one_ne ?_)) (fun c => absurd c (by omega))
    unfold wp_X5_thrown
    refine ⟨fun _ => ⟨fun _ => ⟨⟨a, hW, hR, hG⟩, hX⟩, fun c => absurd c (by decide)⟩, fun c => absurd rfl c⟩
