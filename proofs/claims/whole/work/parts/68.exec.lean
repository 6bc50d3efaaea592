/-! execute: the model -/
def EF (σ σ' : Mem) : Prop := (∀ c, c ≠ 25 → c ≠ 26 → c ≠ 27 → c ≠ 29 → c ≠ 33 → σ' c = σ c) ∧ σ' 25 4 = σ 25 4 ∧ σ' 25 15 = σ 25 15 ∧ σ' 25 6 = 0 ∧ σ' 25 11 = 0
theorem MT_c (σ : Mem) (g : Nat → Int32) (m q : Int) {c : Nat} (h1 : c ≠ 25) (h2 : c ≠ 33) : MT σ g m q c = σ c := by
  unfold MT MS
  rw [up_c _ _ h2, st_c _ _ _ h1, st_c _ _ _ h1]
theorem m_execute {K : Int32 → Mem → Prop} {ch : Int → Int} {n m : Int} {a : Nat → Int} {σ : Mem} (hT : TM σ ch n) (hG : RG a (σ 26)) (hW : WF a) (hw : σ 25 6 = 0) (hm : σ 25 5 = zI m) (hm1 : 0 ≤ m ∧ m ≤ 8)
    (hbad : (pt ch 9 0).1 = false → ∀ σ', EF σ σ' → σ' 25 8 = σ 25 8 → σ' 25 9 = σ 25 9 → σ' 25 12 = zI (pt ch 9 0).2.1 → σ' 25 13 = σ 25 13 → σ' 25 5 = σ 25 5 → σ' 25 7 = 1 → σ' 26 = σ 26 → σ' 27 = σ 27 → K 0 σ')
    (hfail : (pt ch 9 0).1 = true → (rn (pt ch 9 0).2.2 a).1 = false → ∀ σ', EF σ σ' → σ' 25 8 = (rv (σ 25 8) (σ 25 9) (rn (pt ch 9 0).2.2 a).2.2.2).1 → σ' 25 9 = (rv (σ 25 8) (σ 25 9) (rn (pt ch 9 0).2.2 a).2.2.2).2 → σ' 25 12 = σ 25 12 → σ' 25 13 = zI (rn (pt ch 9 0).2.2 a).2.1 → σ' 25 5 = σ 25 5 → σ' 25 7 = 2 → RG a (σ' 26) → σ' 27 = σ 27 → K 0 σ')
    (hgood : (pt ch 9 0).1 = true → (rn (pt ch 9 0).2.2 a).1 = true → ∀ σ', EF σ σ' → σ' 25 8 = σ 25 8 → σ' 25 9 = σ 25 9 → σ' 25 12 = σ 25 12 → σ' 25 13 = σ 25 13 → σ' 25 5 = zI (if m + 1 < 8 then m + 1 else 8) → σ' 25 7 = 0 → RG (rn (pt ch 9 0).2.2 a).2.2.1 (σ' 26) → (∃ row, RG a row ∧ KP m (σ' 27) (σ 27) row) → K (zI (pt ch 9 0).2.2.length) σ') : wp_X5_execute σ K := by
  have hl8 : (pt ch 9 0).1 = true → (pt ch 9 0).2.2.length ≤ 9 := fun h => by
    have := (pt_8 hT.1 9 0 (by decide) hT.1.1.1).2 h
    have := hT.1.1
    omega
  unfold wp_X5_execute wpJ_X5_execute_17 wpJ_X5_execute_32
  refine m_isText hT (fun hk g q hs => one_ne' ?_) (fun hk g m' => zero_eq' ?_)
  · intro σ4 e4
    subst e4
    refine one_ne (m_f0 (zero_eq ?_))
    refine m_copies_26_29 (p := 0) (q := 0) (by decide) (by decide) (fun f9 h9a _ σ10 e10 => ?_)
    subst e10
    refine ⟨_, m_execL (hl8 hk) (pt ch 9 0).2.2 0 a 0 _ rfl (Nat.zero_add _) (fun c hc => pt_W ch 9 0 c hc) ?_ (st_e _ _ _ _) ?_ ?_ hW ?_ (fun hr r σ' hM w => ?_) (fun hr σ' hX => ?_)⟩
    · exact (st_e σ 25 20 _ : st σ 25 20 (zI ((pt ch 9 0).2.2.length : Int)) 25 20 = _)
    · rfl
    · exact hs
    · exact hG
    · unfold wpJ_X5_execute_98
      intro σ12 e12
      subst e12
      have e7 : st σ' 25 6 0 25 7 = 0 := hM.2.2
      rw [e7]
      refine ⟨fun _ => ?_, fun c => absurd (by decide) c⟩
      have e5 : st σ' 25 6 0 25 5 = zI m := (hM.2.1 5 (by decide) (by decide)).trans hm
      refine m_keeps_29 (m := m) (st_e _ _ _ _) e5 hm1 (fun f hf => ?_)
      have e20 : st (va_up (st (st σ' 25 6 0) 25 7 0) 27 f) 25 5 (zI (if m + 1 < 8 then m + 1 else 8)) 25 20 = zI (pt ch 9 0).2.2.length := hM.2.1 20 (by decide) (by decide)
      rw [e20]
      have e27 : st σ' 25 6 0 27 = σ 27 := hM.1 27 (by decide) (by decide)
      have e29 : st σ' 25 6 0 29 = f9 := hM.1 29 (by decide) (by decide)
      rw [e27, e29] at hf
      refine hgood hk hr _ ⟨fun c c1 c2 c3 c4 c5 => ?_, ?_, ?_, rfl, ?_⟩ ?_ ?_ ?_ ?_ rfl rfl w ⟨f9, RG_cong hG (fun j hj => ?_), hf⟩
      · rw [st_c _ _ _ c1, up_c _ _ c3, st_c _ _ _ c1, st_c _ _ _ c1, hM.1 c c1 c2, st_c _ _ _ c1, up_c _ _ c4, st_c _ _ _ c1, st_c _ _ _ c1]
        exact MT_c _ _ _ _ c1 c5
      · exact hM.2.1 4 (by decide) (by decide)
      · exact hM.2.1 15 (by decide) (by decide)
      · exact hM.2.1 11 (by decide) (by decide)
      · exact hM.2.1 8 (by decide) (by decide)
      · exact hM.2.1 9 (by decide) (by decide)
      · exact hM.2.1 12 (by decide) (by decide)
      · exact hM.2.1 13 (by decide) (by decide)
      · have := h9a j hj
        rw [show (0 : Int).toNat + j = j from Nat.zero_add j] at this
        exact this
    · unfold wpJ_X5_execute_98
      intro σ12 e12
      subst e12
      obtain ⟨v, hv, e7⟩ := hX.2.2.2.2
      have e7b : st σ' 25 6 0 25 7 = zI v := e7
      rw [e7b]
      refine br_le0 (by omega) (fun c => absurd c (by omega)) (fun _ => ?_)
      refine m_copies_29_26 (p := 0) (q := 0) (by decide) (by decide) (fun f hfa _ σ16 e16 σ17 e17 => ⟨fun _ => ?_, fun c => absurd (by decide) c⟩)
      subst e16; subst e17
      have e29 : st σ' 25 6 0 29 = f9 := hX.1 29 (by decide) (by decide)
      refine hfail hk hr _ ⟨fun c c1 c2 c3 c4 c5 => ?_, ?_, ?_, rfl, ?_⟩ ?_ ?_ ?_ ?_ ?_ rfl (RG_cong hG (fun j hj => ?_)) ?_
      · rw [st_c _ _ _ c1, st_c _ _ _ c1, up_c _ _ c2, st_c _ _ _ c1, hX.1 c c1 c2, st_c _ _ _ c1, up_c _ _ c4, st_c _ _ _ c1, st_c _ _ _ c1]
        exact MT_c _ _ _ _ c1 c5
      · exact hX.2.1 4 (by decide) (by decide) (by decide) (by decide)
      · exact hX.2.1 15 (by decide) (by decide) (by decide) (by decide)
      · exact hX.2.1 11 (by decide) (by decide) (by decide) (by decide)
      · exact hX.2.2.1
      · exact hX.2.2.2.1
      · exact hX.2.1 12 (by decide) (by decide) (by decide) (by decide)
      · show zI (((0 : Nat) : Int) + ((rn (pt ch 9 0).2.2 a).2.1 : Int)) = _
        rw [show ((0 : Nat) : Int) + ((rn (pt ch 9 0).2.2 a).2.1 : Int) = (rn (pt ch 9 0).2.2 a).2.1 by omega]
      · exact hX.2.1 5 (by decide) (by decide) (by decide) (by decide)
      · have h1 := hfa j hj
        have h2 := h9a j hj
        rw [e29] at h1
        rw [show (0 : Int).toNat + j = j from Nat.zero_add j] at h1 h2
        exact h1.trans h2
      · exact hX.1 27 (by decide) (by decide)
  · intro σ24 e24 σ4 e4
    rw [show MT σ g m' (pt ch 9 0).2.1 25 18 = zI (pt ch 9 0).2.1 from MS_18 _ _ _] at e24
    subst e24; subst e4
    refine zero_eq (m_f1 (n := 1) (by decide) (one_ne ?_))
    refine hbad hk _ ⟨fun c c1 c2 c3 c4 c5 => ?_, rfl, rfl, hw, rfl⟩ rfl rfl rfl rfl rfl rfl rfl rfl
    rw [st_c _ _ _ c1, st_c _ _ _ c1, st_c _ _ _ c1]
    exact MT_c _ _ _ _ c1 c5
