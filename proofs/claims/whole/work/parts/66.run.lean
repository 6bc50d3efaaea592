/-! the commands of a text, one after another -/
theorem rd_vs (ch : Int → Int) : ∀ (D : List Int) (p : Int), (∀ v ∈ (rd ch D p).2.2, 0 ≤ v ∧ v ≤ 99) ∧ ((rd ch D p).1 = true → ((rd ch D p).2.2.length : Int) = nv D)
  | [], p => ⟨fun v hv => absurd hv (List.not_mem_nil), fun _ => rfl⟩
  | d :: ds, p => by
    have h1 := rd_vs ch ds (p + 1)
    have h2 := rd_vs ch ds (p + 2)
    have hnv2 : nv (d :: ds) = (if d = 35 ∨ d = 37 then 1 else 0) + nv ds := rfl
    have hrd : rd ch (d :: ds) p = if d = 35 ∨ d = 37 then (if dg (ch p) = true then (if d = 37 ∧ dg (ch (p + 1)) = true then cv ((ch p - 48) * 10 + ch (p + 1) - 48) (rd ch ds (p + 2)) else cv (ch p - 48) (rd ch ds (p + 1))) else (false, p, [])) else if ch p = d then rd ch ds (p + 1) else (false, p, []) := rfl
    rw [hrd, hnv2]
    by_cases c1 : d = 35 ∨ d = 37
    · rw [if_pos c1, if_pos c1]
      by_cases c2 : dg (ch p) = true
      · rw [if_pos c2]
        have g := dg_iff.1 c2
        by_cases c3 : d = 37 ∧ dg (ch (p + 1)) = true
        · rw [if_pos c3]
          have g2 := dg_iff.1 c3.2
          refine ⟨fun v hv => ?_, fun h => ?_⟩
          · rcases List.mem_cons.1 hv with e | e
            · omega
            · exact h2.1 v e
          · have := h2.2 h
            show (((rd ch ds (p + 2)).2.2.length + 1 : Nat) : Int) = _
            omega
        · rw [if_neg c3]
          refine ⟨fun v hv => ?_, fun h => ?_⟩
          · rcases List.mem_cons.1 hv with e | e
            · omega
            · exact h1.1 v e
          · have := h1.2 h
            show (((rd ch ds (p + 1)).2.2.length + 1 : Nat) : Int) = _
            omega
      · rw [if_neg c2]
        exact ⟨fun v hv => absurd hv (List.not_mem_nil), fun h => Bool.noConfusion (show false = true from h)⟩
    · rw [if_neg c1, if_neg c1]
      by_cases c2 : ch p = d
      · rw [if_pos c2]
        exact ⟨h1.1, fun h => by have := h1.2 h; omega⟩
      · rw [if_neg c2]
        exact ⟨fun v hv => absurd hv (List.not_mem_nil), fun h => Bool.noConfusion (show false = true from h)⟩
def CW (c : Int × List Int) : Prop := (0 ≤ c.1 ∧ c.1 < 8) ∧ (c.2.length : Int) = nv (LSn c.1.toNat) ∧ ∀ v ∈ c.2, 0 ≤ v ∧ v ≤ 99
theorem res_W {ch : Int → Int} {p : Int} (h : (res ch p).1 = true) : CW (kdn ch p, (res ch p).2.2) := by
  have h6 := res_6 h
  have e : res ch p = rd ch (LSn (kdn ch p).toNat) p := if_neg (by omega)
  have hv := rd_vs ch (LSn (kdn ch p).toNat) p
  rw [← e] at hv
  exact ⟨h6.2, hv.2 h, hv.1⟩
theorem pt_W (ch : Int → Int) : ∀ (r : Nat) (p : Int), ∀ c ∈ (pt ch r p).2.2, CW c
  | 0, p => fun c hc => absurd hc (List.not_mem_nil)
  | r + 1, p => by
    have hrd : pt ch (r + 1) p = if (res ch p).1 = true then (if ch (res ch p).2.1 = -1 then (true, (res ch p).2.1, [(kdn ch p, (res ch p).2.2)]) else if ch (res ch p).2.1 = 59 then ((pt ch r ((res ch p).2.1 + 1)).1, (pt ch r ((res ch p).2.1 + 1)).2.1, (kdn ch p, (res ch p).2.2) :: (pt ch r ((res ch p).2.1 + 1)).2.2) else (false, (res ch p).2.1, [])) else (false, (res ch p).2.1, []) := rfl
    rw [hrd]
    intro c hc
    by_cases h : (res ch p).1 = true
    · rw [if_pos h] at hc
      by_cases h1 : ch (res ch p).2.1 = -1
      · rw [if_pos h1] at hc
        rcases List.mem_cons.1 hc with e | e
        · rw [e]; exact res_W h
        · exact absurd e (List.not_mem_nil)
      · rw [if_neg h1] at hc
        by_cases h2 : ch (res ch p).2.1 = 59
        · rw [if_pos h2] at hc
          rcases List.mem_cons.1 hc with e | e
          · rw [e]; exact res_W h
          · exact pt_W ch r _ c e
        · rw [if_neg h2] at hc
          exact absurd hc (List.not_mem_nil)
    · rw [if_neg h] at hc
      exact absurd hc (List.not_mem_nil)
theorem pt_8 {ch : Int → Int} {n : Int} (hT : TX ch n) : ∀ (r : Nat) (p : Int), 0 ≤ p → p ≤ n → (0 ≤ (pt ch r p).2.1 ∧ (pt ch r p).2.1 ≤ n) ∧ ((pt ch r p).1 = true → p + 7 * ((pt ch r p).2.2.length : Int) ≤ n + 1)
  | 0, p => fun h0 h => ⟨⟨h0, h⟩, fun x => Bool.noConfusion (show false = true from x)⟩
  | r + 1, p => by
    intro h0 hp
    have hl := res_le hT hp
    have hrd : pt ch (r + 1) p = if (res ch p).1 = true then (if ch (res ch p).2.1 = -1 then (true, (res ch p).2.1, [(kdn ch p, (res ch p).2.2)]) else if ch (res ch p).2.1 = 59 then ((pt ch r ((res ch p).2.1 + 1)).1, (pt ch r ((res ch p).2.1 + 1)).2.1, (kdn ch p, (res ch p).2.2) :: (pt ch r ((res ch p).2.1 + 1)).2.2) else (false, (res ch p).2.1, [])) else (false, (res ch p).2.1, []) := rfl
    rw [hrd]
    by_cases h : (res ch p).1 = true
    · have h6 := res_6 h
      rw [if_pos h]
      by_cases h1 : ch (res ch p).2.1 = -1
      · rw [if_pos h1]
        exact ⟨⟨(by show 0 ≤ (res ch p).2.1; omega), hl.2⟩, fun _ => by show p + 7 * ((1 : Nat) : Int) ≤ n + 1; omega⟩
      · rw [if_neg h1]
        by_cases h2 : ch (res ch p).2.1 = 59
        · rw [if_pos h2]
          have hlt := hT.lt (p := (res ch p).2.1) h1
          have ih := pt_8 hT r ((res ch p).2.1 + 1) (by omega) (by omega)
          refine ⟨ih.1, fun hk => ?_⟩
          have := ih.2 hk
          show p + 7 * (((pt ch r ((res ch p).2.1 + 1)).2.2.length + 1 : Nat) : Int) ≤ n + 1
          omega
        · rw [if_neg h2]
          exact ⟨⟨(by show 0 ≤ (res ch p).2.1; omega), hl.2⟩, fun x => Bool.noConfusion (show false = true from x)⟩
    · rw [if_neg h]
      exact ⟨⟨(by show 0 ≤ (res ch p).2.1; omega), hl.2⟩, fun x => Bool.noConfusion (show false = true from x)⟩
def kO (a : Nat → Int) (c : Int × List Int) : Bool := oks a c.1 (c.2.getD 0 0) (c.2.getD 1 0) (c.2.getD 2 0)
def kN (a : Nat → Int) (c : Int × List Int) : Nat → Int := nxs a c.1 (c.2.getD 0 0) (c.2.getD 1 0) (c.2.getD 2 0)
def kR (a : Nat → Int) (c : Int × List Int) : Option (Int × Int) := rfs a c.1 (c.2.getD 0 0) (c.2.getD 1 0) (c.2.getD 2 0)
theorem nv_LS : nv (LSn 0) = 1 ∧ nv (LSn 1) = 1 ∧ nv (LSn 2) = 3 ∧ nv (LSn 3) = 2 ∧ nv (LSn 4) = 3 ∧ nv (LSn 5) = 1 ∧ nv (LSn 6) = 1 ∧ nv (LSn 7) = 1 := by decide
theorem c_irr {a : Nat → Int} {k : Int} {vs : List Int} (hc : CW (k, vs)) {w0 w1 w2 : Int} (h : ∀ j : Nat, j < vs.length → [w0, w1, w2].getD j 0 = vs.getD j 0) : oks a k w0 w1 w2 = kO a (k, vs) ∧ nxs a k w0 w1 w2 = kN a (k, vs) ∧ rfs a k w0 w1 w2 = kR a (k, vs) := by
  obtain ⟨h8, hl, _⟩ := hc
  obtain ⟨n0, n1, n2, n3, n4, n5, n6, n7⟩ := nv_LS
  have g0 : 1 ≤ vs.length → w0 = vs.getD 0 0 := fun x => h 0 (by omega)
  have g1 : 2 ≤ vs.length → w1 = vs.getD 1 0 := fun x => h 1 (by omega)
  have g2 : 3 ≤ vs.length → w2 = vs.getD 2 0 := fun x => h 2 (by omega)
  change (0 ≤ k ∧ k < 8) at h8
  change (vs.length : Int) = nv (LSn k.toNat) at hl
  unfold kO kN kR
  dsimp only
  rcases (by omega : k = 0 ∨ k = 1 ∨ k = 2 ∨ k = 3 ∨ k = 4 ∨ k = 5 ∨ k = 6 ∨ k = 7) with e | e | e | e | e | e | e | e <;> subst e
  · have : (vs.length : Int) = 1 := by rw [hl]; exact n0
    rw [g0 (by omega)]; exact ⟨by simp [oks], by simp [nxs], by simp [rfs]⟩
  · have : (vs.length : Int) = 1 := by rw [hl]; exact n1
    rw [g0 (by omega)]; exact ⟨by simp [oks], by simp [nxs], by simp [rfs]⟩
  · have : (vs.length : Int) = 3 := by rw [hl]; exact n2
    rw [g0 (by omega), g1 (by omega), g2 (by omega)]; exact ⟨by simp [oks], by simp [nxs], by simp [rfs]⟩
  · have : (vs.length : Int) = 2 := by rw [hl]; exact n3
    rw [g0 (by omega), g1 (by omega)]; exact ⟨by simp [oks], by simp [nxs], by simp [rfs]⟩
  · have : (vs.length : Int) = 3 := by rw [hl]; exact n4
    rw [g0 (by omega), g1 (by omega), g2 (by omega)]; exact ⟨by simp [oks], by simp [nxs], by simp [rfs]⟩
  · have : (vs.length : Int) = 1 := by rw [hl]; exact n5
    rw [g0 (by omega)]; exact ⟨by simp [oks], by simp [nxs], by simp [rfs]⟩
  · have : (vs.length : Int) = 1 := by rw [hl]; exact n6
    rw [g0 (by omega)]; exact ⟨by simp [oks], by simp [nxs], by simp [rfs]⟩
  · have : (vs.length : Int) = 1 := by rw [hl]; exact n7
    rw [g0 (by omega)]; exact ⟨by simp [oks], by simp [nxs], by simp [rfs]⟩
theorem getD_99 {vs : List Int} (h : ∀ v ∈ vs, 0 ≤ v ∧ v ≤ 99) (j : Nat) (hj : j < vs.length) : 0 ≤ vs.getD j 0 ∧ vs.getD j 0 ≤ 99 := by
  rw [List.getD_eq_getElem?_getD, List.getElem?_eq_getElem hj]
  exact h _ (List.getElem_mem hj)
theorem q_value {σ : Mem} {K : Int32 → Mem → Prop} {i j : Int} (hi : 0 ≤ i ∧ i < 9) (hj : 0 ≤ j ∧ j < 3) (h : K (σ 22 (3 * i + j).toNat) σ) : wp_X0_value (zI i) (zI j) σ K := by
  unfold wp_X0_value
  intro v1 e1
  rw [zl_3, zI_mul, zI_add] at e1
  subst e1
  rw [zl_27]
  refine br_lt0 (by omega) (fun c => absurd c (by omega)) (fun _ => br_le (by omega) (by omega) (fun c => absurd c (by omega)) (fun _ => ⟨zI_in (by omega) (by omega) (by decide), ?_⟩))
  rw [zI_nat (by omega) (by omega), show i * 3 + j = 3 * i + j by omega]
  exact h
/-- a word as an int, the known one where there is one -/
theorem pick (x : Int32) : ∃ w : Int, x = zI w ∧ (-2147483648 ≤ w ∧ w < 2147483648) := by
  obtain ⟨w, e, h1, h2⟩ := zI_ex x
  exact ⟨w, e, h1, h2⟩
theorem pick_is {w v : Int} (h : zI w = zI v) (hw : -2147483648 ≤ w ∧ w < 2147483648) (hv : 0 ≤ v ∧ v ≤ 99) : w = v := (zI_eq hw.1 hw.2 (by omega) (by omega)).1 h
theorem q_runs {K : Int32 → Mem → Prop} {a : Nat → Int} {σ : Mem} (hR : RC a (σ 2)) (hW : WF a) {i : Int} (hi : 0 ≤ i ∧ i < 9) {k : Int} {vs : List Int} (hc : CW (k, vs)) (h21 : σ 21 i.toNat = zI k) (h22 : VO (σ 22) i 0 vs)
    (hok : kO a (k, vs) = true → ∀ σ', QF σ σ' → WF (kN a (k, vs)) → RC (kN a (k, vs)) (σ' 2) → K 1 σ') (hno : kO a (k, vs) = false → K 0 (rcl σ (kR a (k, vs)))) : wp_X4_runs (zI i) σ K := by
  obtain ⟨w0, e0, b0⟩ := pick (σ 22 (3 * i + 0).toNat)
  obtain ⟨w1, e1, b1⟩ := pick (σ 22 (3 * i + 1).toNat)
  obtain ⟨w2, e2, b2⟩ := pick (σ 22 (3 * i + 2).toNat)
  have hl3 : vs.length ≤ 3 := by
    have h1 := hc.2.1
    have h2 := LSn_nv k.toNat (by have := hc.1; omega)
    change (vs.length : Int) = nv (LSn k.toNat) at h1
    omega
  have hir := c_irr (a := a) hc (w0 := w0) (w1 := w1) (w2 := w2) (fun j hj => by
    have hv := h22 j hj
    have h99 := getD_99 hc.2.2 j hj
    rcases (by omega : j = 0 ∨ j = 1 ∨ j = 2) with e | e | e <;> subst e
    · rw [show (3 * i + 0 + ((0 : Nat) : Int)).toNat = (3 * i + 0).toNat by omega, e0] at hv
      exact pick_is hv b0 h99
    · rw [show (3 * i + 0 + ((1 : Nat) : Int)).toNat = (3 * i + 1).toNat by omega, e1] at hv
      exact pick_is hv b1 h99
    · rw [show (3 * i + 0 + ((2 : Nat) : Int)).toNat = (3 * i + 2).toNat by omega, e2] at hv
      exact pick_is hv b2 h99)
  unfold wp_X4_runs wp_X0_kind
  refine br_lt0 (by omega) (fun c => absurd c (by omega)) (fun _ => br_le (x := 9) (by omega) (by omega) (fun c => absurd c (by omega)) (fun _ => ⟨zI_in (by omega) (by omega) (by decide), ?_⟩))
  rw [zI_nat hi.1 (by omega), h21]
  refine q_value (j := 0) hi (by decide) (q_value (j := 1) hi (by decide) (q_value (j := 2) hi (by decide) ?_))
  rw [e0, e1, e2]
  refine q_problemC hR hW hc.1 b0 b1 b2 (fun ho => zero_eq ?_) (fun ho r hr => ⟨fun c => absurd c hr, fun _ => ?_⟩)
  · refine q_carryOut hR hW hc.1 ho (fun σ' hQ w1 w2 => ?_)
    rw [hir.2.1] at w1 w2
    exact hok (by rw [← hir.1]; exact ho) σ' hQ w1 w2
  · rw [hir.2.2]
    exact hno (by rw [← hir.1]; exact ho)
