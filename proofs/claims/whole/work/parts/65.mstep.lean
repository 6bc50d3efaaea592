/-! one command of a text: the model -/
def rv (x y : Int32) : Option (Int × Int) → Int32 × Int32
  | none => (x, y)
  | some (r, d) => (zI r, zI d)
def MO (σ σ' : Mem) : Prop := (∀ c, c ≠ 25 → c ≠ 26 → σ' c = σ c) ∧ (∀ j, j ≠ 7 → j ≠ 16 → σ' 25 j = σ 25 j) ∧ σ' 25 7 = 0
def MN (σ σ' : Mem) (o : Option (Int × Int)) : Prop := (∀ c, c ≠ 25 → σ' c = σ c) ∧ (∀ j, j ≠ 7 → j ≠ 8 → j ≠ 9 → j ≠ 16 → σ' 25 j = σ 25 j) ∧ σ' 25 8 = (rv (σ 25 8) (σ 25 9) o).1 ∧ σ' 25 9 = (rv (σ 25 8) (σ 25 9) o).2 ∧ ∃ v : Int, (0 < v ∧ v ≤ 5) ∧ σ' 25 7 = zI v
theorem MN_1 (σ : Mem) {v : Int} (hv : 0 < v ∧ v ≤ 5) : MN σ (st σ 25 7 (zI v)) none := ⟨fun c h => st_c _ _ _ h, fun j h _ _ _ => st_j _ _ _ h, rfl, rfl, v, hv, st_e _ _ _ _⟩
theorem MN_2 (σ : Mem) {v : Int} (hv : 0 < v ∧ v ≤ 5) : MN σ (st (st σ 25 7 0) 25 7 (zI v)) none := by rw [st_st]; exact MN_1 σ hv
section Y0
variable {a : Nat → Int} {σ : Mem}
theorem w_carries {K : Int32 → Mem → Prop} (hG : RG a (σ 26)) (hW : WF a) (hw : σ 25 6 = 1) {i k v0 v1 v2 : Int} (hi : 0 ≤ i ∧ i < 9) (hk : 0 ≤ k ∧ k < 8) (e0 : σ 33 (4 * i).toNat = zI k) (e1 : σ 33 (4 * i + 1).toNat = zI v0) (e2 : σ 33 (4 * i + 2).toNat = zI v1) (e3 : σ 33 (4 * i + 3).toNat = zI v2) (h0 : -2147483648 ≤ v0 ∧ v0 < 2147483648) (h1 : -2147483648 ≤ v1 ∧ v1 < 2147483648) (h2 : -2147483648 ≤ v2 ∧ v2 < 2147483648)
    (hok : oks a k v0 v1 v2 = true → ∀ (r : Int32) (σ' : Mem), MO σ σ' → RG (nxs a k v0 v1 v2) (σ' 26) → K r σ') (hno : oks a k v0 v1 v2 = false → ∀ σ', MN σ σ' (rfs a k v0 v1 v2) → K 0 σ') : wp_X5_carries (zI (4 * i)) σ K := by
  have hc := hW.c
  unfold wp_X5_carries
  rw [zl_1, zI_add, zl_2, zI_add, zl_3, zI_add]
  refine ⟨zI_in (by omega) (by omega) (by decide), fun w0 f0 => ⟨zI_in (by omega) (by omega) (by decide), fun w1 f1 => ⟨zI_in (by omega) (by omega) (by decide), fun w2 f2 => ⟨zI_in (by omega) (by omega) (by decide), fun w3 f3 => ?_⟩⟩⟩⟩
  rw [zI_nat (by omega) (by omega), e1] at f0
  rw [zI_nat (by omega) (by omega), e2] at f1
  rw [zI_nat (by omega) (by omega), e3] at f2
  rw [zI_nat (by omega) (by omega), e0] at f3
  subst f0; subst f1; subst f2; subst f3
  rcases (by omega : k = 0 ∨ k = 1 ∨ k = 2 ∨ k = 3 ∨ k = 4 ∨ k = 5 ∨ k = 6 ∨ k = 7) with e | e | e | e | e | e | e | e <;> subst e
  · refine ⟨fun _ => ?_, fun c => absurd c (by decide), fun c => absurd c (by decide), fun c => absurd c (by decide), fun c => absurd c (by decide), fun c => absurd c (by decide), fun c => absurd c (by decide), fun c => absurd rfl c⟩
    have hno2 : ¬ ((1 ≤ v0 ∧ v0 ≤ 9) ∧ a 0 < 5) → ∀ σ', MN σ σ' none → K 0 σ' := fun c => hno (decide_eq_false c)
    refine w_addGate hG hW hw h0 (fun c => hno2 (fun z => c z.1) _ (MN_1 σ (v := 1) (by decide))) (fun _ c => hno2 (fun z => by omega) _ (MN_1 σ (v := 2) (by decide))) (fun c1 c2 => hok (decide_eq_true ⟨c1, c2⟩) _ _ ⟨fun c z1 z2 => ?_, fun j z1 z2 => ?_, rfl⟩ (RG_0 (RG_need hG (by omega) v0) _))
    · rw [st_c _ _ _ z2, st_c _ _ _ z2, st_c _ _ _ z1, st_c _ _ _ z1]
    · show st (st σ 25 7 0) 25 7 0 25 j = σ 25 j
      rw [st_j _ _ _ z1, st_j _ _ _ z1]
  · refine ⟨fun c => absurd c (by decide), fun _ => ?_, fun c => absurd c (by decide), fun c => absurd c (by decide), fun c => absurd c (by decide), fun c => absurd c (by decide), fun c => absurd c (by decide), fun _ c => absurd rfl c⟩
    have hno2 : ¬ ((1 ≤ v0 ∧ v0 ≤ 9) ∧ a 1 < 10) → ∀ σ', MN σ σ' none → K 0 σ' := fun c => hno (decide_eq_false c)
    refine w_addGuard hG hW hw h0 (fun c => hno2 (fun z => c z.1) _ (MN_1 σ (v := 1) (by decide))) (fun _ c => hno2 (fun z => by omega) _ (MN_1 σ (v := 2) (by decide))) (fun c1 c2 => hok (decide_eq_true ⟨c1, c2⟩) _ _ ⟨fun c z1 z2 => ?_, fun j z1 z2 => ?_, rfl⟩ (RG_1 (RG_rank hG (by omega) v0) _))
    · rw [st_c _ _ _ z2, st_c _ _ _ z2, st_c _ _ _ z1, st_c _ _ _ z1]
    · show st (st σ 25 7 0) 25 7 0 25 j = σ 25 j
      rw [st_j _ _ _ z1, st_j _ _ _ z1]
  · refine ⟨fun c => absurd c (by decide), fun c => absurd c (by decide), fun _ => ?_, fun c => absurd c (by decide), fun c => absurd c (by decide), fun c => absurd c (by decide), fun c => absurd c (by decide), fun _ _ c => absurd rfl c⟩
    have hn : ¬ ((0 ≤ v0 ∧ v0 < a 0) ∧ (0 ≤ v1 ∧ v1 < 28) ∧ (0 ≤ v2 ∧ v2 < a 1) ∧ a 3 ≤ v1) → rfs a 2 v0 v1 v2 = none := fun c => if_neg c
    have hs : ((0 ≤ v0 ∧ v0 < a 0) ∧ (0 ≤ v1 ∧ v1 < 28) ∧ (0 ≤ v2 ∧ v2 < a 1) ∧ a 3 ≤ v1) → rfs a 2 v0 v1 v2 = some (rsn a v0 v1 v2, dtl a v0 v1 v2) := fun c => if_pos c
    have hno2 : ¬ ((0 ≤ v0 ∧ v0 < a 0) ∧ (0 ≤ v1 ∧ v1 < 28) ∧ (0 ≤ v2 ∧ v2 < a 1) ∧ a 3 ≤ v1 ∧ rsn a v0 v1 v2 = 0) → ∀ σ', MN σ σ' (rfs a 2 v0 v1 v2) → K 0 σ' := fun c => hno (decide_eq_false c)
    refine w_assign hG hW hw h0 h1 h2 (fun c => ?_) (fun c1 c2 c3 c => ?_) (fun c1 c2 c3 c4 c5 => ?_) (fun c1 c2 c3 c4 c5 => hok (decide_eq_true ⟨c1, c2, c3, c4, c5⟩) _ _ ⟨fun c z1 z2 => ?_, fun j z1 z2 => ?_, rfl⟩ (RG.sd hG c1.1 c2.1 v2))
    · refine hno2 (fun z => c ⟨z.1, z.2.1, z.2.2.1⟩) _ ?_
      rw [hn (fun z => c ⟨z.1, z.2.1, z.2.2.1⟩)]
      exact MN_1 σ (v := 1) (by decide)
    · refine hno2 (fun z => by omega) _ ?_
      rw [hn (fun z => by omega)]
      exact MN_1 σ (v := 2) (by decide)
    · refine hno2 (fun z => c5 z.2.2.2.2) _ ?_
      rw [hs ⟨c1, c2, c3, c4⟩]
      refine ⟨fun c z => ?_, fun j z1 z2 z3 z4 => ?_, rfl, rfl, 3, by decide, rfl⟩
      · rw [st_c _ _ _ z, st_c _ _ _ z, st_c _ _ _ z, st_c _ _ _ z, st_c _ _ _ z]
      · rw [st_j _ _ _ z1, st_j _ _ _ z3, st_j _ _ _ z2, st_j _ _ _ z4, st_j _ _ _ z1]
    · rw [st_c _ _ _ z2]
      simp only [st_c _ _ _ z1]
    · rw [st_c _ _ _ (show (25 : Nat) ≠ 26 by decide)]
      simp only [st_j _ _ _ z1, st_j _ _ _ z2]
  · refine ⟨fun c => absurd c (by decide), fun c => absurd c (by decide), fun c => absurd c (by decide), fun _ => ?_, fun c => absurd c (by decide), fun c => absurd c (by decide), fun c => absurd c (by decide), fun _ _ _ c => absurd rfl c⟩
    have hno2 : ¬ ((0 ≤ v0 ∧ v0 < a 0) ∧ (0 ≤ v1 ∧ v1 < 28) ∧ a 3 ≤ v1 ∧ du a v0 v1 ≠ -1) → ∀ σ', MN σ σ' none → K 0 σ' := fun c => hno (decide_eq_false c)
    refine w_remove hG hW hw h0 h1 (fun c => hno2 (fun z => c ⟨z.1, z.2.1⟩) _ (MN_1 σ (v := 1) (by decide))) (fun _ _ c => hno2 (fun z => by omega) _ (MN_1 σ (v := 2) (by decide))) (fun _ _ _ c => hno2 (fun z => z.2.2.2 c) _ (MN_1 σ (v := 3) (by decide))) (fun c1 c2 c3 c4 => hok (decide_eq_true ⟨c1, c2, c3, c4⟩) _ _ ⟨fun c z1 z2 => ?_, fun j z1 z2 => ?_, rfl⟩ (RG.sd hG c1.1 c2.1 (-1)))
    · rw [st_c _ _ _ z2]
      simp only [st_c _ _ _ z1]
    · rw [st_c _ _ _ (show (25 : Nat) ≠ 26 by decide)]
      simp only [st_j _ _ _ z1]
  · refine ⟨fun c => absurd c (by decide), fun c => absurd c (by decide), fun c => absurd c (by decide), fun c => absurd c (by decide), fun _ => ?_, fun c => absurd c (by decide), fun c => absurd c (by decide), fun _ _ _ _ c => absurd rfl c⟩
    have hn : ¬ ((0 ≤ v0 ∧ v0 < a 1) ∧ (0 ≤ v1 ∧ v1 ≤ v2 ∧ v2 < 28) ∧ a 3 ≤ v1) → rfs a 4 v0 v1 v2 = none := fun c => if_neg c
    have hs : ((0 ≤ v0 ∧ v0 < a 1) ∧ (0 ≤ v1 ∧ v1 ≤ v2 ∧ v2 < 28) ∧ a 3 ≤ v1) → rfs a 4 v0 v1 v2 = some (4, fgh a v0 v1 v2) := fun c => if_pos c
    have hno2 : ¬ ((0 ≤ v0 ∧ v0 < a 1) ∧ (0 ≤ v1 ∧ v1 ≤ v2 ∧ v2 < 28) ∧ a 3 ≤ v1 ∧ fgh a v0 v1 v2 = -1) → ∀ σ', MN σ σ' (rfs a 4 v0 v1 v2) → K 0 σ' := fun c => hno (decide_eq_false c)
    refine w_grantLeave hG hW hw h0 h1 h2 (fun c => ?_) (fun c1 c => ?_) (fun c1 c2 c => ?_) (fun c1 c2 c3 c4 => ?_) (fun c1 c2 c3 c4 => hok (decide_eq_true ⟨c1, c2, c3, c4⟩) _ _ ⟨fun c z1 z2 => ?_, fun j z1 z2 => ?_, rfl⟩ (RG_lv hG ⟨c1.1, by omega⟩ _))
    · refine hno2 (fun z => c z.1) _ ?_
      rw [hn (fun z => c z.1)]
      exact MN_1 σ (v := 1) (by decide)
    · refine hno2 (fun z => c z.2.1) _ ?_
      rw [hn (fun z => c z.2.1)]
      exact MN_1 σ (v := 2) (by decide)
    · refine hno2 (fun z => by omega) _ ?_
      rw [hn (fun z => by omega)]
      exact MN_2 σ (v := 3) (by decide)
    · refine hno2 (fun z => c4 z.2.2.2) _ ?_
      rw [hs ⟨c1, c2, c3⟩]
      refine ⟨fun c z => ?_, fun j z1 z2 z3 z4 => ?_, rfl, rfl, 4, by decide, rfl⟩
      · simp only [st_c _ _ _ z]
      · rw [st_j _ _ _ z1, st_j _ _ _ z3, st_j _ _ _ z2, st_j _ _ _ z1, st_j _ _ _ z1]
    · rw [st_c _ _ _ z2]
      simp only [st_c _ _ _ z1]
    · rw [st_c _ _ _ (show (25 : Nat) ≠ 26 by decide)]
      simp only [st_j _ _ _ z1]
  · refine ⟨fun c => absurd c (by decide), fun c => absurd c (by decide), fun c => absurd c (by decide), fun c => absurd c (by decide), fun c => absurd c (by decide), fun _ => ?_, fun c => absurd c (by decide), fun _ _ _ _ _ c => absurd rfl c⟩
    have hno2 : ¬ ((0 ≤ v0 ∧ v0 < 28) ∧ a 3 ≤ v0) → ∀ σ', MN σ σ' none → K 0 σ' := fun c => hno (decide_eq_false c)
    refine w_fillSlot hG hW hw h0 (fun c => hno2 (fun z => c z.1) _ (MN_1 σ (v := 1) (by decide))) (fun _ c => hno2 (fun z => by omega) _ (MN_1 σ (v := 2) (by decide))) (fun c1 c2 x row w1 w2 => hok (decide_eq_true ⟨c1, c2⟩) _ _ ⟨fun c z1 z2 => ?_, fun j z1 z2 => ?_, rfl⟩ w2)
    · rw [up_c _ _ z2]
      simp only [st_c _ _ _ z1]
    · rw [up_c _ _ (show (25 : Nat) ≠ 26 by decide)]
      simp only [st_j _ _ _ z1, st_j _ _ _ z2]
  · refine ⟨fun c => absurd c (by decide), fun c => absurd c (by decide), fun c => absurd c (by decide), fun c => absurd c (by decide), fun c => absurd c (by decide), fun c => absurd c (by decide), fun _ => ?_, fun _ _ _ _ _ _ c => absurd rfl c⟩
    have hno2 : ¬ ((1 ≤ v0 ∧ v0 ≤ 50) ∧ a 2 + v0 ≤ 99) → ∀ σ', MN σ σ' none → K 0 σ' := fun c => hno (decide_eq_false c)
    refine w_addRations hG hW hw h0 (fun c => hno2 (fun z => c z.1) _ (MN_1 σ (v := 1) (by decide))) (fun _ c => hno2 (fun z => by omega) _ (MN_1 σ (v := 2) (by decide))) (fun c1 c2 => hok (decide_eq_true ⟨c1, c2⟩) _ _ ⟨fun c z1 z2 => ?_, fun j z1 z2 => ?_, rfl⟩ (RG_food hG _))
    · rw [st_c _ _ _ z2]
      simp only [st_c _ _ _ z1]
    · rw [st_c _ _ _ (show (25 : Nat) ≠ 26 by decide)]
      simp only [st_j _ _ _ z1]
  · refine ⟨fun c => absurd c (by decide), fun c => absurd c (by decide), fun c => absurd c (by decide), fun c => absurd c (by decide), fun c => absurd c (by decide), fun c => absurd c (by decide), fun c => absurd c (by decide), fun _ _ _ _ _ _ _ => ?_⟩
    have hno2 : ¬ ((1 ≤ v0 ∧ v0 ≤ 28) ∧ a 3 + v0 ≤ 28) → ∀ σ', MN σ σ' none → K 0 σ' := fun c => hno (decide_eq_false c)
    refine w_passSlots hG hW hw h0 (fun c => hno2 (fun z => c z.1) _ (MN_1 σ (v := 1) (by decide))) (fun _ c => hno2 (fun z => by omega) _ (MN_1 σ (v := 2) (by decide))) (fun c1 c2 row w => hok (decide_eq_true ⟨c1, c2⟩) _ _ ⟨fun c z1 z2 => ?_, fun j z1 z2 => ?_, rfl⟩ w)
    · rw [up_c _ _ z2]
      simp only [st_c _ _ _ z1]
    · rw [up_c _ _ (show (25 : Nat) ≠ 26 by decide)]
      simp only [st_j _ _ _ z1]
end Y0
