/-! taking back, saving, restoring -/
theorem q_backOut {σ : Mem} {K : Mem → Prop} {n : Int} (hn : σ 4 1 = zI n) (h0 : 0 ≤ n ∧ n < 9) (h : K (va_up σ 2 (va_cpy (ring σ n.toNat) (σ 2) 0 0 179))) : wp_X1_backOut σ K := by
  unfold wp_X1_backOut
  rw [hn]
  rcases (show n = 0 ∨ n = 1 ∨ n = 2 ∨ n = 3 ∨ n = 4 ∨ n = 5 ∨ n = 6 ∨ n = 7 ∨ n = 8 by omega) with rfl | rfl | rfl | rfl | rfl | rfl | rfl | rfl | rfl
  · exact ⟨fun c => absurd c (by decide), fun _ => ⟨fun c => absurd c (by decide), fun _ => ⟨zI_in (by decide) (by decide) (by decide), fun _ => ⟨fun c => absurd rfl c, fun _ σ2 e => by subst e; exact h⟩, fun c => absurd c (by decide), fun c => absurd c (by decide), fun c => absurd c (by decide), fun c => absurd c (by decide), fun c => absurd c (by decide), fun c => absurd c (by decide), fun c => absurd c (by decide), fun c => absurd c (by decide)⟩⟩⟩
  · exact ⟨fun c => absurd c (by decide), fun _ => ⟨fun c => absurd c (by decide), fun _ => ⟨zI_in (by decide) (by decide) (by decide), fun c => absurd c (by decide), fun _ => ⟨fun c => absurd rfl c, fun _ σ2 e => by subst e; exact h⟩, fun c => absurd c (by decide), fun c => absurd c (by decide), fun c => absurd c (by decide), fun c => absurd c (by decide), fun c => absurd c (by decide), fun c => absurd c (by decide), fun c => absurd c (by decide)⟩⟩⟩
  · exact ⟨fun c => absurd c (by decide), fun _ => ⟨fun c => absurd c (by decide), fun _ => ⟨zI_in (by decide) (by decide) (by decide), fun c => absurd c (by decide), fun c => absurd c (by decide), fun _ => ⟨fun c => absurd rfl c, fun _ σ2 e => by subst e; exact h⟩, fun c => absurd c (by decide), fun c => absurd c (by decide), fun c => absurd c (by decide), fun c => absurd c (by decide), fun c => absurd c (by decide), fun c => absurd c (by decide)⟩⟩⟩
  · exact ⟨fun c => absurd c (by decide), fun _ => ⟨fun c => absurd c (by decide), fun _ => ⟨zI_in (by decide) (by decide) (by decide), fun c => absurd c (by decide), fun c => absurd c (by decide), fun c => absurd c (by decide), fun _ => ⟨fun c => absurd rfl c, fun _ σ2 e => by subst e; exact h⟩, fun c => absurd c (by decide), fun c => absurd c (by decide), fun c => absurd c (by decide), fun c => absurd c (by decide), fun c => absurd c (by decide)⟩⟩⟩
  · exact ⟨fun c => absurd c (by decide), fun _ => ⟨fun c => absurd c (by decide), fun _ => ⟨zI_in (by decide) (by decide) (by decide), fun c => absurd c (by decide), fun c => absurd c (by decide), fun c => absurd c (by decide), fun c => absurd c (by decide), fun _ => ⟨fun c => absurd rfl c, fun _ σ2 e => by subst e; exact h⟩, fun c => absurd c (by decide), fun c => absurd c (by decide), fun c => absurd c (by decide), fun c => absurd c (by decide)⟩⟩⟩
  · exact ⟨fun c => absurd c (by decide), fun _ => ⟨fun c => absurd c (by decide), fun _ => ⟨zI_in (by decide) (by decide) (by decide), fun c => absurd c (by decide), fun c => absurd c (by decide), fun c => absurd c (by decide), fun c => absurd c (by decide), fun c => absurd c (by decide), fun _ => ⟨fun c => absurd rfl c, fun _ σ2 e => by subst e; exact h⟩, fun c => absurd c (by decide), fun c => absurd c (by decide), fun c => absurd c (by decide)⟩⟩⟩
  · exact ⟨fun c => absurd c (by decide), fun _ => ⟨fun c => absurd c (by decide), fun _ => ⟨zI_in (by decide) (by decide) (by decide), fun c => absurd c (by decide), fun c => absurd c (by decide), fun c => absurd c (by decide), fun c => absurd c (by decide), fun c => absurd c (by decide), fun c => absurd c (by decide), fun _ => ⟨fun c => absurd rfl c, fun _ σ2 e => by subst e; exact h⟩, fun c => absurd c (by decide), fun c => absurd c (by decide)⟩⟩⟩
  · exact ⟨fun c => absurd c (by decide), fun _ => ⟨fun c => absurd c (by decide), fun _ => ⟨zI_in (by decide) (by decide) (by decide), fun c => absurd c (by decide), fun c => absurd c (by decide), fun c => absurd c (by decide), fun c => absurd c (by decide), fun c => absurd c (by decide), fun c => absurd c (by decide), fun c => absurd c (by decide), fun _ => ⟨fun c => absurd rfl c, fun _ σ2 e => by subst e; exact h⟩, fun c => absurd c (by decide)⟩⟩⟩
  · exact ⟨fun c => absurd c (by decide), fun _ => ⟨fun c => absurd c (by decide), fun _ => ⟨zI_in (by decide) (by decide) (by decide), fun c => absurd c (by decide), fun c => absurd c (by decide), fun c => absurd c (by decide), fun c => absurd c (by decide), fun c => absurd c (by decide), fun c => absurd c (by decide), fun c => absurd c (by decide), fun c => absurd c (by decide), fun _ => ⟨fun c => absurd rfl c, fun _ σ2 e => by subst e; exact h⟩⟩⟩⟩
theorem q_takeBack {σ : Mem} {K : Mem → Prop} {n m : Int} (hn : σ 4 1 = zI n) (h0 : 0 ≤ n ∧ n < 9) (hm : σ 4 2 = zI m) (h1 : 1 ≤ m ∧ m ≤ 8) (h : K (va_up (st (st σ 4 2 (zI (m - 1))) 4 1 (zI (if 0 < n then n - 1 else 8))) 2 (va_cpy (ring σ (if 0 < n then n - 1 else 8).toNat) (σ 2) 0 0 179))) : wp_X1_takeBack σ K := by
  unfold wp_X1_takeBack wpJ_X1_takeBack_36
  rw [hm, zl_1, zI_sub]
  refine br_le0 (by omega) (fun c => absurd c (by omega)) (fun _ σ2 e2 => ?_)
  have e1 : σ2 4 1 = zI n := by rw [e2, st_j _ _ _ (show (1 : Nat) ≠ 2 by decide)]; exact hn
  rw [e1, zI_sub]
  refine br_le0 (by omega) (fun c σ4 e4 => ?_) (fun c σ4 e4 => ?_)
  · subst e4; subst e2
    rw [if_neg (by omega)] at h
    exact q_backOut (n := 8) (st_e _ _ _ _) (by decide) h
  · subst e4; subst e2
    rw [if_pos (by omega)] at h
    exact q_backOut (n := n - 1) (st_e _ _ _ _) (by omega) h
theorem m_undo {σ : Mem} {K : Int32 → Mem → Prop} {m : Int} (hm : σ 25 5 = zI m) (hm1 : 0 ≤ m ∧ m ≤ 8) (h0 : m = 0 → K 0 (st σ 25 7 1)) (h : 0 < m → ∀ f : Nat → Int32, (∀ j : Nat, j < 179 → f j = σ 27 (179 * (m - 1).toNat + j)) → K (zI (m - 1)) (va_up (st (st σ 25 7 0) 25 5 (zI (m - 1))) 26 f)) : wp_X5_undo σ K := by
  unfold wp_X5_undo wpJ_X5_undo_13
  rw [hm]
  refine br_n0 (by omega) (fun c => m_f1 (n := 1) (by decide) (one_ne (h0 c))) (fun c => m_f0 (zero_eq (fun σ5 e5 => ?_)))
  have e1 : st σ 25 7 0 25 5 = zI m := by rw [st_j _ _ _ (show (5 : Nat) ≠ 7 by decide)]; exact hm
  rw [e1, zl_1, zI_sub] at e5
  subst e5
  rw [st_e, zl_179, zI_mul]
  refine m_copies_27_26 (p := 179 * (m - 1)) (q := 0) (by omega) (by decide) (fun f h1 h2 => ?_)
  have e2 : (va_up (st (st σ 25 7 0) 25 5 (zI (m - 1))) 26 f) 25 5 = zI (m - 1) := st_e (st σ 25 7 0) 25 5 (zI (m - 1))
  rw [e2]
  refine h (by omega) f (fun j hj => ?_)
  have e3 : f (0 + j) = σ 27 ((179 * (m - 1)).toNat + j) := h1 j hj
  rw [Nat.zero_add, show (179 * (m - 1)).toNat + j = 179 * (m - 1).toNat + j by omega] at e3
  exact e3
theorem o_45 {σ : Mem} (hI : Inv σ) (a1 a2 a3 a4 : Int32) : wplc_45 a1 a2 a3 a4 σ Inv := by
  obtain ⟨⟨a, hW, hR, hG⟩, hX⟩ := hI
  obtain ⟨n, m, hn, hm, e1, e2, e3, hs⟩ := id hX.1
  unfold wplc_45 wp_L_undo wp_X4_undo wp_X1_size
  dsimp only
  rw [e2]
  refine br_n0 (by omega) (fun c => ⟨rfl, ?_⟩) (fun c => ?_)
  · exact m_undo e3 hm (fun _ => fin_i rfl (fun c => absurd c (by decide)) ⟨⟨a, hW, hR, hG⟩, hX⟩) (fun h => absurd h (by omega))
  · refine q_takeBack e1 hn e2 (by omega) (fun σ4 e4 => ?_)
    have e5 : (va_up (st (st σ 4 2 (zI (m - 1))) 4 1 (zI (if 0 < n then n - 1 else 8))) 2 (va_cpy (ring σ (if 0 < n then n - 1 else 8).toNat) (σ 2) 0 0 179)) 4 2 = zI (m - 1) := by
      show (st (st σ 4 2 (zI (m - 1))) 4 1 (zI (if 0 < n then n - 1 else 8))) 4 2 = _
      rw [st_j _ _ _ (show (2 : Nat) ≠ 1 by decide), st_e]
    rw [e5] at e4
    obtain ⟨b, b1, b2, b3⟩ := hs (m - 1) (by omega) (by omega)
    have en : (if 0 < n then n - 1 else 8) = (n + 8) % 9 := by split <;> omega
    have ei : ((n + 9 - m + (m - 1)) % 9).toNat = (if 0 < n then n - 1 else 8).toNat := by rw [en]; omega
    subst e4
    refine m_undo (m := m) e3 hm (fun h => absurd h c) (fun _ f hf => ?_)
    refine fin_i rfl (fun _ => rfl) ⟨⟨b, b1, ?_, ?_⟩, ⟨(if 0 < n then n - 1 else 8), m - 1, by split <;> omega, by omega, ?_, e5, rfl, fun i h1 h2 => ?_⟩, hX.2⟩
    · rw [ei] at b2
      refine RC_cong b2 (fun j hj => ?_)
      show va_cpy (ring σ (if 0 < n then n - 1 else 8).toNat) (σ 2) 0 0 179 j = _
      rw [pk_cpy_in (by omega) (by omega)]
      congr 1
      omega
    · exact RG_cong b3 (fun j hj => hf j hj)
    · show (st (st σ 4 2 (zI (m - 1))) 4 1 (zI (if 0 < n then n - 1 else 8))) 4 1 = _
      rw [st_e]
    · obtain ⟨d, d1, d2, d3⟩ := hs i h1 (by omega)
      refine ⟨d, d1, ?_, d3⟩
      have ej : (((if 0 < n then n - 1 else 8) + 9 - (m - 1) + i) % 9).toNat = ((n + 9 - m + i) % 9).toNat := by rw [en]; omega
      rw [ej]
      exact d2
theorem o_47 {σ : Mem} (hI : Inv σ) (a1 a2 a3 a4 : Int32) : wplc_47 a1 a2 a3 a4 σ Inv := by
  obtain ⟨⟨a, hW, hR, hG⟩, hX⟩ := hI
  unfold wplc_47 wp_X4_save wp_X2_copyTo_23 wp_X5_save
  refine ⟨fun c => absurd rfl c, fun _ σ1 e1 σ2 e2 => q_guards (a := a) (by subst e2; subst e1; exact hR) ?_⟩
  subst e2; subst e1
  intro σ3 e3 σ4 e4
  subst e4; subst e3
  refine m_copies_26_28 (p := 0) (q := 0) (by decide) (by decide) (fun f h1 h2 => ?_)
  refine fin_e hG.2.1.symm ⟨⟨a, hW, hR, hG⟩, hX.1, Or.inr ⟨rfl, rfl, a, hW, RC_cong hR (fun j hj => ?_), RG_cong hG (fun j hj => ?_)⟩, hX.2.2⟩
  · show va_cpy (σ 2) (σ 23) 0 0 179 j = _
    rw [pk_cpy_in (by omega) (by omega)]
    congr 1
    omega
  · have e3 : f (0 + j) = σ 26 (0 + j) := h1 j hj
    rw [Nat.zero_add] at e3
    exact e3
theorem o_48 {σ : Mem} (hI : Inv σ) (a1 a2 a3 a4 : Int32) : wplc_48 a1 a2 a3 a4 σ Inv := by
  obtain ⟨⟨a, hW, hR, hG⟩, hX⟩ := hI
  obtain ⟨n, m, hn, hm, e1, e2, e3, hs⟩ := id hX.1
  unfold wplc_48 wp_L_restore wp_X4_restore wp_X2_copyFrom_23 wp_X1_forget wp_X5_restore wpJ_X5_restore_13
  rcases hX.2.1 with ⟨s1, s2⟩ | ⟨s1, s2, b, b1, b2, b3⟩
  · rw [s1]
    refine zero_eq' ⟨rfl, ?_⟩
    dsimp only
    rw [s2]
    exact zero_eq (m_f1 (n := 1) (by decide) (one_ne (fin_i rfl (fun c => absurd c (by decide)) ⟨⟨a, hW, hR, hG⟩, hX⟩)))
  · rw [s1]
    refine one_ne' ⟨fun c => absurd rfl c, fun _ σ2 e2 σ3 e3 => ?_⟩
    have hRb : RC b (σ3 2) := by
      subst e3; subst e2
      refine RC_cong b2 (fun j hj => ?_)
      show va_cpy (σ 23) (σ 2) 0 0 179 j = _
      rw [pk_cpy_in (by omega) (by omega)]
      congr 1
      omega
    refine q_guards hRb (fun σ4 e4 => ?_)
    subst e4; subst e3; subst e2
    have s3 : (st (st (cp σ 23 2) 4 2 0) 34 0 (zI (b 1))) 25 4 = 1 := s2
    rw [s3]
    refine one_ne (m_f0 (zero_eq (m_copies_28_26 (p := 0) (q := 0) (by decide) (by decide) (fun f h1 h2 σ6 e6 => ?_))))
    subst e6
    have hGb : RG b f := RG_cong b3 (fun j hj => by
      have e3 : f (0 + j) = σ 28 (0 + j) := h1 j hj
      rw [Nat.zero_add] at e3
      exact e3)
    refine fin_i rfl (fun _ => hGb.2.1.symm) ⟨⟨b, b1, hRb, hGb⟩, ⟨n, 0, hn, by decide, ?_, rfl, rfl, fun i h1 h2 => absurd h2 (by omega)⟩, hX.2⟩
    exact e1
