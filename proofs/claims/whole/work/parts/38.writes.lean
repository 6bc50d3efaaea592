/-! the row written -/
def iu (a : Nat → Int) (j : Nat) (v : Int) : Nat → Int := fun i => if i = j then v else a i
theorem iu_e (a : Nat → Int) (j : Nat) (v : Int) : iu a j v j = v := if_pos rfl
theorem iu_j (a : Nat → Int) {j i : Nat} (v : Int) (h : i ≠ j) : iu a j v i = a i := if_neg h
section WR
variable {a : Nat → Int} {c g : Nat → Int32}
theorem RC_u (h : RC a c) {j : Nat} (hj : j < 39) (v : Int) : RC (iu a j v) (upd c j (zI v)) := by
  refine ⟨fun i hi => ?_, fun i h1 h2 => ?_⟩
  · show (if i = j then zI v else c i) = zI (if i = j then v else a i)
    by_cases e : i = j
    · rw [if_pos e, if_pos e]
    · rw [if_neg e, if_neg e]; exact h.1 i hi
  · show (if i = j then zI v else c i) = zI ((if i = j then v else a i) + 1)
    rw [if_neg (by omega), if_neg (by omega)]
    exact h.2 i h1 h2
theorem RC_d (h : RC a c) {j : Nat} (h1 : 39 ≤ j) (v : Int) : RC (iu a j v) (upd c j (zI (v + 1))) := by
  refine ⟨fun i hi => ?_, fun i h1 h2 => ?_⟩
  · show (if i = j then zI (v + 1) else c i) = zI (if i = j then v else a i)
    rw [if_neg (by omega), if_neg (by omega)]
    exact h.1 i hi
  · show (if i = j then zI (v + 1) else c i) = zI ((if i = j then v else a i) + 1)
    by_cases e : i = j
    · rw [if_pos e, if_pos e]
    · rw [if_neg e, if_neg e]; exact h.2 i h1 h2
theorem RG_at (h : RG a g) (p0 q0 : Nat) (v : Int) (H : (0 = p0 ↔ 0 = q0) ∧ (1 = p0 ↔ 1 = q0) ∧ (2 = p0 ↔ 3 = q0) ∧ (3 = p0 ↔ 2 = q0) ∧ (∀ k, k < 5 → (4 + k = p0 ↔ 4 + k = q0)) ∧ (∀ k, k < 10 → (9 + 2 * k = p0 ↔ 9 + k = q0) ∧ (10 + 2 * k = p0 ↔ 19 + k = q0) ∧ (29 + k = p0 ↔ 29 + k = q0)) ∧ ∀ j, 39 ≤ j → j < 179 → (j = p0 ↔ j = q0)) : RG (iu a q0 v) (upd g p0 (zI v)) := by
  have key : ∀ p q, (p = p0 ↔ q = q0) → g p = zI (a q) → upd g p0 (zI v) p = zI (iu a q0 v q) := by
    intro p q e hg
    show (if p = p0 then zI v else g p) = zI (if q = q0 then v else a q)
    by_cases c : p = p0
    · rw [if_pos c, if_pos (e.mp c)]
    · rw [if_neg c, if_neg (fun x => c (e.mpr x))]; exact hg
  obtain ⟨e0, e1, e2, e3, e4, e5, e6⟩ := H
  exact ⟨key _ _ e0 h.1, key _ _ e1 h.2.1, key _ _ e2 h.2.2.1, key _ _ e3 h.2.2.2.1, fun k hk => key _ _ (e4 k hk) (h.2.2.2.2.1 k hk), fun k hk => ⟨key _ _ (e5 k hk).1 (h.2.2.2.2.2.1 k hk).1, key _ _ (e5 k hk).2.1 (h.2.2.2.2.2.1 k hk).2.1, key _ _ (e5 k hk).2.2 (h.2.2.2.2.2.1 k hk).2.2⟩, fun j h1 h2 => key _ _ (e6 j h1 h2) (h.2.2.2.2.2.2 j h1 h2)⟩
theorem RG_0 (h : RG a g) (v : Int) : RG (iu a 0 v) (upd g 0 (zI v)) := RG_at h 0 0 v ⟨by omega, by omega, by omega, by omega, fun k hk => by omega, fun k hk => ⟨by omega, by omega, by omega⟩, fun j h1 h2 => by omega⟩
theorem RG_1 (h : RG a g) (v : Int) : RG (iu a 1 v) (upd g 1 (zI v)) := RG_at h 1 1 v ⟨by omega, by omega, by omega, by omega, fun k hk => by omega, fun k hk => ⟨by omega, by omega, by omega⟩, fun j h1 h2 => by omega⟩
theorem RG_now (h : RG a g) (v : Int) : RG (iu a 3 v) (upd g 2 (zI v)) := RG_at h 2 3 v ⟨by omega, by omega, by omega, by omega, fun k hk => by omega, fun k hk => ⟨by omega, by omega, by omega⟩, fun j h1 h2 => by omega⟩
theorem RG_food (h : RG a g) (v : Int) : RG (iu a 2 v) (upd g 3 (zI v)) := RG_at h 3 2 v ⟨by omega, by omega, by omega, by omega, fun k hk => by omega, fun k hk => ⟨by omega, by omega, by omega⟩, fun j h1 h2 => by omega⟩
theorem RG_need (h : RG a g) {k : Nat} (hk : k < 5) (v : Int) : RG (iu a (4 + k) v) (upd g (4 + k) (zI v)) := RG_at h _ _ v ⟨by omega, by omega, by omega, by omega, fun k hk => by omega, fun k hk => ⟨by omega, by omega, by omega⟩, fun j h1 h2 => by omega⟩
theorem RG_rank (h : RG a g) {k : Nat} (hk : k < 10) (v : Int) : RG (iu a (9 + k) v) (upd g (9 + 2 * k) (zI v)) := RG_at h _ _ v ⟨by omega, by omega, by omega, by omega, fun k hk => by omega, fun k hk => ⟨by omega, by omega, by omega⟩, fun j h1 h2 => by omega⟩
theorem RG_faint (h : RG a g) {k : Nat} (hk : k < 10) (v : Int) : RG (iu a (19 + k) v) (upd g (10 + 2 * k) (zI v)) := RG_at h _ _ v ⟨by omega, by omega, by omega, by omega, fun k hk => by omega, fun k hk => ⟨by omega, by omega, by omega⟩, fun j h1 h2 => by omega⟩
theorem RG_leave (h : RG a g) {k : Nat} (hk : k < 10) (v : Int) : RG (iu a (29 + k) v) (upd g (29 + k) (zI v)) := RG_at h _ _ v ⟨by omega, by omega, by omega, by omega, fun k hk => by omega, fun k hk => ⟨by omega, by omega, by omega⟩, fun j h1 h2 => by omega⟩
theorem RG_duty (h : RG a g) {j : Nat} (hj : 39 ≤ j) (v : Int) : RG (iu a j v) (upd g j (zI v)) := RG_at h _ _ v ⟨by omega, by omega, by omega, by omega, fun k hk => by omega, fun k hk => ⟨by omega, by omega, by omega⟩, fun j h1 h2 => by omega⟩
def addG (a : Nat → Int) (v : Int) : Nat → Int := iu (iu a (4 + (a 0).toNat) v) 0 (a 0 + 1)
def addU (a : Nat → Int) (v : Int) : Nat → Int := iu (iu a (9 + (a 1).toNat) v) 1 (a 1 + 1)
theorem WF_addG (hW : WF a) (h0 : a 0 < 5) {v : Int} (hv : 1 ≤ v ∧ v ≤ 9) : WF (addG a v) := by
  obtain ⟨w0, w1, w2, w3, w4, w5, w6, w7, w8⟩ := hW
  have e0 : addG a v 0 = a 0 + 1 := iu_e _ _ _
  have e1 : addG a v 1 = a 1 := by unfold addG; rw [iu_j _ _ (by omega), iu_j _ _ (by omega)]
  have e2 : addG a v 2 = a 2 := by unfold addG; rw [iu_j _ _ (by omega), iu_j _ _ (by omega)]
  have e3 : addG a v 3 = a 3 := by unfold addG; rw [iu_j _ _ (by omega), iu_j _ _ (by omega)]
  have eh : ∀ i, 9 ≤ i → addG a v i = a i := fun i hi => by unfold addG; rw [iu_j _ _ (by omega), iu_j _ _ (by omega)]
  refine ⟨by omega, by omega, by omega, by omega, fun k hk => ?_, fun k hk => by rw [eh _ (by omega)]; exact w5 k hk, fun k hk => by rw [eh _ (by omega)]; exact w6 k hk, fun j h1 h2 => by rw [eh _ (by omega), e1]; exact w7 j h1 h2, fun j h1 h2 => by rw [eh _ (by omega)]; exact w8 j (by omega) h2⟩
  have := w4 k hk
  unfold addG
  rw [iu_j _ _ (by omega)]
  unfold iu
  split <;> omega
theorem WF_addU (hW : WF a) (h0 : a 1 < 10) {v : Int} (hv : 1 ≤ v ∧ v ≤ 9) : WF (addU a v) := by
  obtain ⟨w0, w1, w2, w3, w4, w5, w6, w7, w8⟩ := hW
  have e0 : addU a v 0 = a 0 := by unfold addU; rw [iu_j _ _ (by omega), iu_j _ _ (by omega)]
  have e1 : addU a v 1 = a 1 + 1 := iu_e _ _ _
  have e2 : addU a v 2 = a 2 := by unfold addU; rw [iu_j _ _ (by omega), iu_j _ _ (by omega)]
  have e3 : addU a v 3 = a 3 := by unfold addU; rw [iu_j _ _ (by omega), iu_j _ _ (by omega)]
  have el : ∀ i, 4 ≤ i → i < 9 → addU a v i = a i := fun i h1 h2 => by unfold addU; rw [iu_j _ _ (by omega), iu_j _ _ (by omega)]
  have eh : ∀ i, 19 ≤ i → addU a v i = a i := fun i hi => by unfold addU; rw [iu_j _ _ (by omega), iu_j _ _ (by omega)]
  refine ⟨by omega, by omega, by omega, by omega, fun k hk => by rw [el _ (by omega) (by omega)]; exact w4 k hk, fun k hk => ?_, fun k hk => by rw [eh _ (by omega)]; exact w6 k hk, fun j h1 h2 => ?_, fun j h1 h2 => by rw [eh _ (by omega)]; exact w8 j (by omega) h2⟩
  · have := w5 k hk
    unfold addU
    rw [iu_j _ _ (by omega)]
    unfold iu
    split <;> omega
  · have := w7 j h1 h2
    rw [eh _ (by omega), e1]
    omega
theorem WF_food (hW : WF a) {v : Int} (hv : 0 ≤ v ∧ v ≤ 99) : WF (iu a 2 v) := by
  obtain ⟨w0, w1, w2, w3, w4, w5, w6, w7, w8⟩ := hW
  have e : ∀ i, i ≠ 2 → iu a 2 v i = a i := fun i hi => iu_j _ _ hi
  have e0 := e 0 (by decide)
  have e1 := e 1 (by decide)
  have e2 := iu_e a 2 v
  have e3 := e 3 (by decide)
  exact ⟨by omega, by omega, by omega, by omega, fun k hk => by rw [e _ (by omega)]; exact w4 k hk, fun k hk => by rw [e _ (by omega)]; exact w5 k hk, fun k hk => by rw [e _ (by omega)]; exact w6 k hk, fun j h1 h2 => by rw [e _ (by omega), e1]; exact w7 j h1 h2, fun j h1 h2 => by rw [e _ (by omega)]; exact w8 j (by omega) h2⟩
theorem WF_now (hW : WF a) {v : Int} (hv : 0 ≤ v ∧ v ≤ 28) : WF (iu a 3 v) := by
  obtain ⟨w0, w1, w2, w3, w4, w5, w6, w7, w8⟩ := hW
  have e : ∀ i, i ≠ 3 → iu a 3 v i = a i := fun i hi => iu_j _ _ hi
  have e0 := e 0 (by decide)
  have e1 := e 1 (by decide)
  have e2 := e 2 (by decide)
  have e3 := iu_e a 3 v
  exact ⟨by omega, by omega, by omega, by omega, fun k hk => by rw [e _ (by omega)]; exact w4 k hk, fun k hk => by rw [e _ (by omega)]; exact w5 k hk, fun k hk => by rw [e _ (by omega)]; exact w6 k hk, fun j h1 h2 => by rw [e _ (by omega), e1]; exact w7 j h1 h2, fun j h1 h2 => by rw [e _ (by omega)]; exact w8 j (by omega) h2⟩
theorem WF_faint (hW : WF a) {k : Nat} (hk : k < 10) (v : Int) : WF (iu a (19 + k) v) := by
  obtain ⟨w0, w1, w2, w3, w4, w5, w6, w7, w8⟩ := hW
  have e : ∀ i, i ≠ 19 + k → iu a (19 + k) v i = a i := fun i hi => iu_j _ _ hi
  have e0 := e 0 (by omega)
  have e1 := e 1 (by omega)
  have e2 := e 2 (by omega)
  have e3 := e 3 (by omega)
  exact ⟨by omega, by omega, by omega, by omega, fun k hk => by rw [e _ (by omega)]; exact w4 k hk, fun k hk => by rw [e _ (by omega)]; exact w5 k hk, fun k hk => by rw [e _ (by omega)]; exact w6 k hk, fun j h1 h2 => by rw [e _ (by omega), e1]; exact w7 j h1 h2, fun j h1 h2 => by rw [e _ (by omega)]; exact w8 j (by omega) h2⟩
theorem WF_leave (hW : WF a) {k : Nat} (hk : k < 10) {v : Int} (hv : 0 ≤ v ∧ v < 268435456) : WF (iu a (29 + k) v) := by
  obtain ⟨w0, w1, w2, w3, w4, w5, w6, w7, w8⟩ := hW
  have e : ∀ i, i ≠ 29 + k → iu a (29 + k) v i = a i := fun i hi => iu_j _ _ hi
  have e0 := e 0 (by omega)
  have e1 := e 1 (by omega)
  have e2 := e 2 (by omega)
  have e3 := e 3 (by omega)
  refine ⟨by omega, by omega, by omega, by omega, fun k hk => by rw [e _ (by omega)]; exact w4 k hk, fun k hk => by rw [e _ (by omega)]; exact w5 k hk, fun j hj => ?_, fun j h1 h2 => by rw [e _ (by omega), e1]; exact w7 j h1 h2, fun j h1 h2 => by rw [e _ (by omega)]; exact w8 j (by omega) h2⟩
  have := w6 j hj
  unfold iu
  split <;> omega
/-- the place of a duty -/
def dp (k s : Int) : Nat := (39 + k * 28 + s).toNat
def sD (a : Nat → Int) (k s u : Int) : Nat → Int := iu a (dp k s) u
theorem WF_duty (hW : WF a) {k s : Int} (hk : 0 ≤ k ∧ k < a 0) (hs : 0 ≤ s ∧ s < 28) {u : Int} (hu : -1 ≤ u ∧ u < a 1) : WF (sD a k s u) := by
  obtain ⟨w0, w1, w2, w3, w4, w5, w6, w7, w8⟩ := hW
  have hp : 39 ≤ dp k s ∧ (dp k s : Int) < 39 + a 0 * 28 := by unfold dp; omega
  have e : ∀ i, i ≠ dp k s → sD a k s u i = a i := fun i hi => iu_j _ _ hi
  have e0 := e 0 (by omega)
  have e1 := e 1 (by omega)
  have e2 := e 2 (by omega)
  have e3 := e 3 (by omega)
  refine ⟨by omega, by omega, by omega, by omega, fun k hk => by rw [e _ (by omega)]; exact w4 k hk, fun k hk => by rw [e _ (by omega)]; exact w5 k hk, fun k hk => by rw [e _ (by omega)]; exact w6 k hk, fun j h1 h2 => ?_, fun j h1 h2 => by rw [e _ (by omega)]; exact w8 j (by omega) h2⟩
  have := w7 j h1 h2
  rw [e1]
  unfold sD iu
  split <;> omega
end WR
section TF
variable {σ : Mem} {K : Mem → Prop} {KX : String → Mem → Prop}
theorem tf0 (h : K σ) : wp_X4_throwFor 0 σ K KX := ⟨fun c => absurd c (by decide), fun c => absurd c (by decide), fun c => absurd c (by decide), fun c => absurd c (by decide), fun c => absurd c (by decide), fun _ _ _ _ _ => h⟩
theorem tf1 (h : KX "java/lang/IndexOutOfBoundsException" σ) : wp_X4_throwFor 1 σ K KX := ⟨fun _ => h, fun c => absurd c (by decide), fun c => absurd c (by decide), fun c => absurd c (by decide), fun c => absurd c (by decide), fun c _ _ _ _ => absurd rfl c⟩
theorem tf2 (h : KX "java/lang/IllegalArgumentException" σ) : wp_X4_throwFor 2 σ K KX := ⟨fun c => absurd c (by decide), fun _ => h, fun c => absurd c (by decide), fun c => absurd c (by decide), fun c => absurd c (by decide), fun _ c _ _ _ => absurd rfl c⟩
theorem tf3 (h : KX "java/lang/IllegalStateException" σ) : wp_X4_throwFor 3 σ K KX := ⟨fun c => absurd c (by decide), fun c => absurd c (by decide), fun _ => h, fun c => absurd c (by decide), fun c => absurd c (by decide), fun _ _ c _ _ => absurd rfl c⟩
theorem tf4 (h : KX "java/util/NoSuchElementException" σ) : wp_X4_throwFor 4 σ K KX := ⟨fun c => absurd c (by decide), fun c => absurd c (by decide), fun c => absurd c (by decide), fun _ => h, fun c => absurd c (by decide), fun _ _ _ c _ => absurd rfl c⟩
theorem tf5 (h : KX "java/lang/UnsupportedOperationException" σ) : wp_X4_throwFor 5 σ K KX := ⟨fun c => absurd c (by decide), fun c => absurd c (by decide), fun c => absurd c (by decide), fun c => absurd c (by decide), fun _ => h, fun _ _ _ _ c => absurd rfl c⟩
end TF
section P0
variable {a : Nat → Int} {σ : Mem} {K : Int32 → Mem → Prop}
theorem q_problemOfGate (hR : RC a (σ 2)) (hW : WF a) {v : Int} (hv : -2147483648 ≤ v ∧ v < 2147483648) (h0 : (1 ≤ v ∧ v ≤ 9) → a 0 < 5 → K 0 σ) (h2 : ¬ (1 ≤ v ∧ v ≤ 9) → K 2 σ) (h3 : (1 ≤ v ∧ v ≤ 9) → a 0 = 5 → K 3 σ) : wp_X4_problemOfGate (zI v) σ K := by
  have hc := hW.c
  unfold wp_X4_problemOfGate wp_X4_isRank
  refine br_lt (x := v) (y := 1) hv (by decide) (fun c => zero_eq' (h2 (by omega))) (fun c => ?_)
  refine br_lt (x := 9) (y := v) (by decide) hv (fun c2 => zero_eq' (h2 (by omega))) (fun c2 => one_ne' (q_gates hR ?_))
  exact br_lt (x := a 0) (y := 5) (by omega) (by decide) (fun c3 => h0 ⟨c, c2⟩ c3) (fun c3 => h3 ⟨c, c2⟩ (by omega))
theorem q_problemOfGuard (hR : RC a (σ 2)) (hW : WF a) {v : Int} (hv : -2147483648 ≤ v ∧ v < 2147483648) (h0 : (1 ≤ v ∧ v ≤ 9) → a 1 < 10 → K 0 σ) (h2 : ¬ (1 ≤ v ∧ v ≤ 9) → K 2 σ) (h3 : (1 ≤ v ∧ v ≤ 9) → a 1 = 10 → K 3 σ) : wp_X4_problemOfGuard (zI v) σ K := by
  have hc := hW.c
  unfold wp_X4_problemOfGuard wp_X4_isRank
  refine br_lt (x := v) (y := 1) hv (by decide) (fun c => zero_eq' (h2 (by omega))) (fun c => ?_)
  refine br_lt (x := 9) (y := v) (by decide) hv (fun c2 => zero_eq' (h2 (by omega))) (fun c2 => one_ne' (q_guards hR ?_))
  exact br_lt (x := a 1) (y := 10) (by omega) (by decide) (fun c3 => h0 ⟨c, c2⟩ c3) (fun c3 => h3 ⟨c, c2⟩ (by omega))
theorem q_problemOfFood (hR : RC a (σ 2)) (hW : WF a) {v : Int} (hv : -2147483648 ≤ v ∧ v < 2147483648) (h0 : (1 ≤ v ∧ v ≤ 50) → a 2 + v ≤ 99 → K 0 σ) (h2 : ¬ (1 ≤ v ∧ v ≤ 50) → K 2 σ) (h3 : (1 ≤ v ∧ v ≤ 50) → 99 < a 2 + v → K 3 σ) : wp_X4_problemOfFood (zI v) σ K := by
  have hc := hW.c
  unfold wp_X4_problemOfFood
  refine br_lt (x := v) (y := 1) hv (by decide) (fun c => h2 (by omega)) (fun c => ?_)
  refine br_le (x := v) (y := 50) hv (by decide) (fun c2 => q_rationsLeft hR ?_) (fun c2 => h2 (by omega))
  rw [zI_add]
  exact br_le (x := a 2 + v) (y := 99) (by omega) (by decide) (fun c3 => h0 ⟨c, c2⟩ c3) (fun c3 => h3 ⟨c, c2⟩ c3)
theorem q_appendGate (hR : RC a (σ 2)) (hW : WF a) (h0 : a 0 < 5) {v : Int} (h : K (zI (a 0)) (st (st σ 2 (4 + (a 0).toNat) (zI v)) 2 0 (zI (a 0 + 1)))) : wp_X2_appendGate (zI v) σ K := by
  have hc := hW.c
  unfold wp_X2_appendGate
  intro v1 e1
  rw [hR.1 0 (by decide)] at e1
  subst e1
  refine br_lt0 (by omega) (fun c => absurd c (by omega)) (fun _ => br_le (x := 5) (by decide) (by omega) (fun c => absurd c (by omega)) (fun _ => ?_))
  rw [zl_4, zl_1, zI_add, zI_add, zI_nat (by omega) (by omega), show (4 + a 0).toNat = 4 + (a 0).toNat by omega]
  refine ⟨zI_in (by omega) (by omega) (by decide), fun σ4 e4 σ5 e5 => ?_⟩
  subst e5; subst e4
  exact h
theorem q_appendGuard (hR : RC a (σ 2)) (hW : WF a) (h0 : a 1 < 10) {v : Int} (h : K (zI (a 1)) (st (st σ 2 (9 + (a 1).toNat) (zI v)) 2 1 (zI (a 1 + 1)))) : wp_X2_appendGuard (zI v) σ K := by
  have hc := hW.c
  unfold wp_X2_appendGuard
  intro v1 e1
  rw [hR.1 1 (by decide)] at e1
  subst e1
  refine br_lt0 (by omega) (fun c => absurd c (by omega)) (fun _ => br_le (x := 10) (by decide) (by omega) (fun c => absurd c (by omega)) (fun _ => ?_))
  rw [zl_9, zl_1, zI_add, zI_add, zI_nat (by omega) (by omega), show (9 + a 1).toNat = 9 + (a 1).toNat by omega]
  refine ⟨zI_in (by omega) (by omega) (by decide), fun σ4 e4 σ5 e5 => ?_⟩
  subst e5; subst e4
  exact h
end P0
theorem ring_wr {σ σ' : Mem} {n : Nat} (e : σ' 6 = Rn σ n 0 ∧ σ' 7 = Rn σ n 1 ∧ σ' 8 = Rn σ n 2 ∧ σ' 9 = Rn σ n 3 ∧ σ' 10 = Rn σ n 4 ∧ σ' 11 = Rn σ n 5 ∧ σ' 12 = Rn σ n 6 ∧ σ' 13 = Rn σ n 7 ∧ σ' 14 = Rn σ n 8) : ∀ k, k < 9 → ring σ' k = Rn σ n k := by
  obtain ⟨e0, e1, e2, e3, e4, e5, e6, e7, e8⟩ := e
  intro k hk
  rcases (show k = 0 ∨ k = 1 ∨ k = 2 ∨ k = 3 ∨ k = 4 ∨ k = 5 ∨ k = 6 ∨ k = 7 ∨ k = 8 by omega) with rfl | rfl | rfl | rfl | rfl | rfl | rfl | rfl | rfl
  · exact e0
  · exact e1
  · exact e2
  · exact e3
  · exact e4
  · exact e5
  · exact e6
  · exact e7
  · exact e8
section M2
variable {a : Nat → Int} {σ : Mem} {K : Int32 → Mem → Prop}
theorem m_addGate (hG : RG a (σ 26)) (hW : WF a) {m : Int} (hw : σ 25 6 = 0) (hm : σ 25 5 = zI m) (hm1 : 0 ≤ m ∧ m ≤ 8) {v : Int} (hv : -2147483648 ≤ v ∧ v < 2147483648) (h1 : ¬ (1 ≤ v ∧ v ≤ 9) → K 0 (st σ 25 7 1)) (h2 : (1 ≤ v ∧ v ≤ 9) → a 0 = 5 → K 0 (st σ 25 7 2)) (h0 : (1 ≤ v ∧ v ≤ 9) → a 0 < 5 → ∀ f : Nat → Int32, KP m f (σ 27) (σ 26) → K (zI (a 0)) (st (st (st (va_up (st (st σ 25 7 0) 25 7 0) 27 f) 25 5 (zI (if m + 1 < 8 then m + 1 else 8))) 26 (4 + (a 0).toNat) (zI v)) 26 0 (zI (a 0 + 1)))) : wp_X5_addGate (zI v) σ K := by
  have hc := hW.c
  unfold wp_X5_addGate wpJ_X5_addGate_30
  refine m_in (lo := 1) (hi := 9) hv (by decide) (by decide) (fun c1 c2 => one_ne' ?_) (fun c => zero_eq' (m_f1 (n := 1) (by decide) (one_ne (h1 c))))
  rw [hG.1]
  refine br_ne (x := a 0) (y := 5) (by omega) (by decide) (fun c => m_f1 (n := 2) (by decide) (one_ne (h2 ⟨c1, c2⟩ c))) (fun c => m_f0 (zero_eq ?_))
  refine m_keeps_26 (σ := st σ 25 7 0) hw hm hm1 (fun f hf => ?_)
  have e0 : (st (va_up (st (st σ 25 7 0) 25 7 0) 27 f) 25 5 (zI (if m + 1 < 8 then m + 1 else 8))) 26 0 = zI (a 0) := hG.1
  rw [e0, zl_4, zI_add, zI_nat (by omega) (by omega), show (4 + a 0).toNat = 4 + (a 0).toNat by omega]
  refine ⟨zI_in (by omega) (by omega) (by decide), fun σ9 e9 σ10 e10 => ?_⟩
  subst e10; subst e9
  rw [st_e, st_j _ _ _ (show (0 : Nat) ≠ 4 + (a 0).toNat by omega), e0, zl_1, zI_add, zI_sub, show a 0 + 1 - 1 = a 0 by omega]
  exact h0 ⟨c1, c2⟩ (by omega) f hf
theorem m_addGuard (hG : RG a (σ 26)) (hW : WF a) {m : Int} (hw : σ 25 6 = 0) (hm : σ 25 5 = zI m) (hm1 : 0 ≤ m ∧ m ≤ 8) {v : Int} (hv : -2147483648 ≤ v ∧ v < 2147483648) (h1 : ¬ (1 ≤ v ∧ v ≤ 9) → K 0 (st σ 25 7 1)) (h2 : (1 ≤ v ∧ v ≤ 9) → a 1 = 10 → K 0 (st σ 25 7 2)) (h0 : (1 ≤ v ∧ v ≤ 9) → a 1 < 10 → ∀ f : Nat → Int32, KP m f (σ 27) (σ 26) → K (zI (a 1)) (st (st (st (va_up (st (st σ 25 7 0) 25 7 0) 27 f) 25 5 (zI (if m + 1 < 8 then m + 1 else 8))) 26 (9 + 2 * (a 1).toNat) (zI v)) 26 1 (zI (a 1 + 1)))) : wp_X5_addGuard (zI v) σ K := by
  have hc := hW.c
  unfold wp_X5_addGuard wpJ_X5_addGuard_31
  refine m_in (lo := 1) (hi := 9) hv (by decide) (by decide) (fun c1 c2 => one_ne' ?_) (fun c => zero_eq' (m_f1 (n := 1) (by decide) (one_ne (h1 c))))
  rw [hG.2.1]
  refine br_ne (x := a 1) (y := 10) (by omega) (by decide) (fun c => m_f1 (n := 2) (by decide) (one_ne (h2 ⟨c1, c2⟩ c))) (fun c => m_f0 (zero_eq ?_))
  refine m_keeps_26 (σ := st σ 25 7 0) hw hm hm1 (fun f hf => ?_)
  have e0 : (st (va_up (st (st σ 25 7 0) 25 7 0) 27 f) 25 5 (zI (if m + 1 < 8 then m + 1 else 8))) 26 1 = zI (a 1) := hG.2.1
  rw [e0, zl_9, zl_2, zI_mul, zI_add, zI_nat (by omega) (by omega), show (9 + 2 * a 1).toNat = 9 + 2 * (a 1).toNat by omega]
  refine ⟨zI_in (by omega) (by omega) (by decide), fun σ9 e9 σ10 e10 => ?_⟩
  subst e10; subst e9
  rw [st_e, st_j _ _ _ (show (1 : Nat) ≠ 9 + 2 * (a 1).toNat by omega), e0, zl_1, zI_add, zI_sub, show a 1 + 1 - 1 = a 1 by omega]
  exact h0 ⟨c1, c2⟩ (by omega) f hf
theorem m_addRations (hG : RG a (σ 26)) (hW : WF a) {m : Int} (hw : σ 25 6 = 0) (hm : σ 25 5 = zI m) (hm1 : 0 ≤ m ∧ m ≤ 8) {v : Int} (hv : -2147483648 ≤ v ∧ v < 2147483648) (h1 : ¬ (1 ≤ v ∧ v ≤ 50) → K 0 (st σ 25 7 1)) (h2 : (1 ≤ v ∧ v ≤ 50) → 99 < a 2 + v → K 0 (st σ 25 7 2)) (h0 : (1 ≤ v ∧ v ≤ 50) → a 2 + v ≤ 99 → ∀ f : Nat → Int32, KP m f (σ 27) (σ 26) → K (zI (a 2 + v)) (st (st (va_up (st (st σ 25 7 0) 25 7 0) 27 f) 25 5 (zI (if m + 1 < 8 then m + 1 else 8))) 26 3 (zI (a 2 + v)))) : wp_X5_addRations (zI v) σ K := by
  have hc := hW.c
  unfold wp_X5_addRations wpJ_X5_addRations_33
  refine m_in (lo := 1) (hi := 50) hv (by decide) (by decide) (fun c1 c2 => one_ne' ?_) (fun c => zero_eq' (m_f1 (n := 1) (by decide) (one_ne (h1 c))))
  rw [hG.2.2.2.1, zI_add]
  refine br_le (x := a 2 + v) (y := 99) (by omega) (by decide) (fun c => m_f0 (zero_eq ?_)) (fun c => m_f1 (n := 2) (by decide) (one_ne (h2 ⟨c1, c2⟩ c)))
  refine m_keeps_26 (σ := st σ 25 7 0) hw hm hm1 (fun f hf => ?_)
  have e0 : (st (va_up (st (st σ 25 7 0) 25 7 0) 27 f) 25 5 (zI (if m + 1 < 8 then m + 1 else 8))) 26 3 = zI (a 2) := hG.2.2.2.1
  intro σ9 e9
  subst e9
  rw [st_e, e0, zI_add]
  exact h0 ⟨c1, c2⟩ c f hf
end M2
theorem o_0 {σ : Mem} (hI : Inv σ) (a1 a2 a3 a4 : Int32) : wplc_0 a1 a2 a3 a4 σ Inv := by
  obtain ⟨⟨a, hW, hR, hG⟩, hX⟩ := hI
  have hc := hW.c
  obtain ⟨n, m, hn, hm, e1, e2, e3, hs⟩ := id hX.1
  obtain ⟨v, rfl, hv⟩ := zI_ex a1
  unfold wplc_0 wp_L_addGate wp_X4_addGate
  refine q_problemOfGate hR hW hv (fun c1 c2 => tf0 ?_) (fun c => tf2 (Or.inl ⟨rfl, ?_⟩)) (fun c1 c2 => tf3 (Or.inr ⟨rfl, ?_⟩))
  · refine q_keep e1 hn e2 hm (q_appendGate (σ := st (st (wr σ (Rn σ n.toNat)) 4 1 _) 4 2 _) hR hW c2 (fun σ4 e => ?_))
    subst e
    refine m_addGate (σ := st (st (st (st (st (wr σ (Rn σ n.toNat)) 4 1 _) 4 2 _) 2 (4 + (a 0).toNat) (zI v)) 2 0 (zI (a 0 + 1))) 34 0 (zI (a 0))) hG hW hX.2.2.1 e3 hm hv (fun h => absurd c1 h) (fun _ h => absurd h (by omega)) (fun _ _ f hf => ?_)
    exact fin_i rfl (fun _ => rfl) ⟨⟨addG a v, WF_addG hW c2 c1, RC_u (RC_u hR (by omega) v) (by decide) _, RG_0 (RG_need hG (by omega) v) _⟩, HS_push hn hm hs hW hR hG hf (ring_wr ⟨rfl, rfl, rfl, rfl, rfl, rfl, rfl, rfl, rfl⟩), hX.2⟩
  · exact m_addGate hG hW hX.2.2.1 e3 hm hv (fun _ => fin_i rfl (fun c => absurd c (by decide)) ⟨⟨a, hW, hR, hG⟩, hX⟩) (fun h _ => absurd h c) (fun h _ => absurd h c)
  · exact m_addGate hG hW hX.2.2.1 e3 hm hv (fun h => absurd c1 h) (fun _ _ => fin_i rfl (fun c => absurd c (by decide)) ⟨⟨a, hW, hR, hG⟩, hX⟩) (fun _ h => absurd h (by omega))
theorem o_1 {σ : Mem} (hI : Inv σ) (a1 a2 a3 a4 : Int32) : wplc_1 a1 a2 a3 a4 σ Inv := by
  obtain ⟨⟨a, hW, hR, hG⟩, hX⟩ := hI
  have hc := hW.c
  obtain ⟨n, m, hn, hm, e1, e2, e3, hs⟩ := id hX.1
  obtain ⟨v, rfl, hv⟩ := zI_ex a1
  unfold wplc_1 wp_L_addGuard wp_X4_addGuard
  refine q_problemOfGuard hR hW hv (fun c1 c2 => tf0 ?_) (fun c => tf2 (Or.inl ⟨rfl, ?_⟩)) (fun c1 c2 => tf3 (Or.inr ⟨rfl, ?_⟩))
  · refine q_keep e1 hn e2 hm (q_appendGuard (σ := st (st (wr σ (Rn σ n.toNat)) 4 1 _) 4 2 _) hR hW c2 (fun σ4 e => ?_))
    subst e
    refine m_addGuard (σ := st (st (st (st (st (wr σ (Rn σ n.toNat)) 4 1 _) 4 2 _) 2 (9 + (a 1).toNat) (zI v)) 2 1 (zI (a 1 + 1))) 34 0 (zI (a 1))) hG hW hX.2.2.1 e3 hm hv (fun h => absurd c1 h) (fun _ h => absurd h (by omega)) (fun _ _ f hf => ?_)
    exact fin_i rfl (fun _ => rfl) ⟨⟨addU a v, WF_addU hW c2 c1, RC_u (RC_u hR (by omega) v) (by decide) _, RG_1 (RG_rank hG (by omega) v) _⟩, HS_push hn hm hs hW hR hG hf (ring_wr ⟨rfl, rfl, rfl, rfl, rfl, rfl, rfl, rfl, rfl⟩), hX.2⟩
  · exact m_addGuard hG hW hX.2.2.1 e3 hm hv (fun _ => fin_i rfl (fun c => absurd c (by decide)) ⟨⟨a, hW, hR, hG⟩, hX⟩) (fun h _ => absurd h c) (fun h _ => absurd h c)
  · exact m_addGuard hG hW hX.2.2.1 e3 hm hv (fun h => absurd c1 h) (fun _ _ => fin_i rfl (fun c => absurd c (by decide)) ⟨⟨a, hW, hR, hG⟩, hX⟩) (fun _ h => absurd h (by omega))
theorem o_28 {σ : Mem} (hI : Inv σ) (a1 a2 a3 a4 : Int32) : wplc_28 a1 a2 a3 a4 σ Inv := by
  obtain ⟨⟨a, hW, hR, hG⟩, hX⟩ := hI
  have hc := hW.c
  obtain ⟨n, m, hn, hm, e1, e2, e3, hs⟩ := id hX.1
  obtain ⟨v, rfl, hv⟩ := zI_ex a1
  unfold wplc_28 wp_L_addRations wp_X4_addRations wp_X2_store wp_X2_rationsLeft
  refine q_problemOfFood hR hW hv (fun c1 c2 => tf0 ?_) (fun c => tf2 (Or.inl ⟨rfl, ?_⟩)) (fun c1 c2 => tf3 (Or.inr ⟨rfl, ?_⟩))
  · refine q_keep e1 hn e2 hm (fun σ5 e5 σ4 e => ?_)
    have er : (st (st (wr σ (Rn σ n.toNat)) 4 1 (zI (if n + 1 < 9 then n + 1 else 0))) 4 2 (zI (if m + 1 < 8 then m + 1 else 8))) 2 2 = zI (a 2) := hR.1 2 (by decide)
    rw [er, zI_add] at e5
    subst e; subst e5
    rw [st_e]
    refine m_addRations (σ := st (st (st (st (wr σ (Rn σ n.toNat)) 4 1 _) 4 2 _) 2 2 (zI (a 2 + v))) 34 0 (zI (a 2 + v))) hG hW hX.2.2.1 e3 hm hv (fun h => absurd c1 h) (fun _ h => absurd h (by omega)) (fun _ _ f hf => ?_)
    exact fin_i rfl (fun _ => rfl) ⟨⟨iu a 2 (a 2 + v), WF_food hW (by omega), RC_u hR (by decide) _, RG_food hG _⟩, HS_push hn hm hs hW hR hG hf (ring_wr ⟨rfl, rfl, rfl, rfl, rfl, rfl, rfl, rfl, rfl⟩), hX.2⟩
  · exact m_addRations hG hW hX.2.2.1 e3 hm hv (fun _ => fin_i rfl (fun c => absurd c (by decide)) ⟨⟨a, hW, hR, hG⟩, hX⟩) (fun h _ => absurd h c) (fun h _ => absurd h c)
  · exact m_addRations hG hW hX.2.2.1 e3 hm hv (fun h => absurd c1 h) (fun _ _ => fin_i rfl (fun c => absurd c (by decide)) ⟨⟨a, hW, hR, hG⟩, hX⟩) (fun _ h => absurd h (by omega))
