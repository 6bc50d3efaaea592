/-! one command of a text -/
def oks (a : Nat → Int) (k v0 v1 v2 : Int) : Bool :=
  if k = 0 then decide ((1 ≤ v0 ∧ v0 ≤ 9) ∧ a 0 < 5) else if k = 1 then decide ((1 ≤ v0 ∧ v0 ≤ 9) ∧ a 1 < 10)
  else if k = 2 then decide ((0 ≤ v0 ∧ v0 < a 0) ∧ (0 ≤ v1 ∧ v1 < 28) ∧ (0 ≤ v2 ∧ v2 < a 1) ∧ a 3 ≤ v1 ∧ rsn a v0 v1 v2 = 0)
  else if k = 3 then decide ((0 ≤ v0 ∧ v0 < a 0) ∧ (0 ≤ v1 ∧ v1 < 28) ∧ a 3 ≤ v1 ∧ du a v0 v1 ≠ -1)
  else if k = 4 then decide ((0 ≤ v0 ∧ v0 < a 1) ∧ (0 ≤ v1 ∧ v1 ≤ v2 ∧ v2 < 28) ∧ a 3 ≤ v1 ∧ fgh a v0 v1 v2 = -1)
  else if k = 5 then decide ((0 ≤ v0 ∧ v0 < 28) ∧ a 3 ≤ v0) else if k = 6 then decide ((1 ≤ v0 ∧ v0 ≤ 50) ∧ a 2 + v0 ≤ 99) else decide ((1 ≤ v0 ∧ v0 ≤ 28) ∧ a 3 + v0 ≤ 28)
def nxs (a : Nat → Int) (k v0 v1 v2 : Int) : Nat → Int :=
  if k = 0 then addG a v0 else if k = 1 then addU a v0 else if k = 2 then sD a v0 v1 v2 else if k = 3 then sD a v0 v1 (-1) else if k = 4 then lvS a v0 (gl a v0 v1 v2) else if k = 5 then (fls (ky a) v0 (a 0).toNat a 0 0).1 else if k = 6 then iu a 2 (a 2 + v0) else (psl v0.toNat a 0).1
def rfs (a : Nat → Int) (k v0 v1 v2 : Int) : Option (Int × Int) :=
  if k = 2 then (if ((0 ≤ v0 ∧ v0 < a 0) ∧ (0 ≤ v1 ∧ v1 < 28) ∧ (0 ≤ v2 ∧ v2 < a 1) ∧ a 3 ≤ v1) then some (rsn a v0 v1 v2, dtl a v0 v1 v2) else none)
  else if k = 4 then (if ((0 ≤ v0 ∧ v0 < a 1) ∧ (0 ≤ v1 ∧ v1 ≤ v2 ∧ v2 < 28) ∧ a 3 ≤ v1) then some (4, fgh a v0 v1 v2) else none) else none
def rcl (σ : Mem) : Option (Int × Int) → Mem
  | none => σ
  | some (r, d) => st (st σ 0 8 (zI r)) 0 9 (zI d)
def QF (σ σ' : Mem) : Prop := ∀ c, c ≠ 2 → c ≠ 3 → σ' c = σ c
theorem QF_2 (σ : Mem) (j : Nat) (v : Int32) : QF σ (st σ 2 j v) := fun _ h _ => st_c _ _ _ h
theorem QF_0 (σ : Mem) : QF σ σ := fun _ _ _ => rfl
theorem QF_t {σ σ' σ'' : Mem} (h : QF σ σ') (h2 : QF σ' σ'') : QF σ σ'' := fun c c1 c2 => by rw [h2 c c1 c2, h c c1 c2]
theorem QF_u (σ : Mem) (f : Nat → Int32) : QF σ (va_up σ 2 f) := fun c c1 _ => up_c _ _ c1
theorem QF_3 (σ : Mem) (f : Nat → Int32) : QF σ (va_up σ 3 f) := fun c _ c2 => up_c _ _ c2
section X1
variable {a : Nat → Int} {σ : Mem}
theorem q_problemC {K : Int32 → Mem → Prop} (hR : RC a (σ 2)) (hW : WF a) {k v0 v1 v2 : Int} (hk : 0 ≤ k ∧ k < 8) (h0 : -2147483648 ≤ v0 ∧ v0 < 2147483648) (h1 : -2147483648 ≤ v1 ∧ v1 < 2147483648) (h2 : -2147483648 ≤ v2 ∧ v2 < 2147483648)
    (hok : oks a k v0 v1 v2 = true → K 0 σ) (hno : oks a k v0 v1 v2 = false → ∀ r : Int32, r ≠ 0 → K r (rcl σ (rfs a k v0 v1 v2))) : wp_X4_problemOfCommand (zI k) (zI v0) (zI v1) (zI v2) σ K := by
  unfold wp_X4_problemOfCommand
  rcases (by omega : k = 0 ∨ k = 1 ∨ k = 2 ∨ k = 3 ∨ k = 4 ∨ k = 5 ∨ k = 6 ∨ k = 7) with e | e | e | e | e | e | e | e <;> subst e
  · refine ⟨fun _ => ?_, fun c => absurd c (by decide), fun c => absurd c (by decide), fun c => absurd c (by decide), fun c => absurd c (by decide), fun c => absurd c (by decide), fun c => absurd c (by decide), fun c => absurd c (by decide), fun c => absurd rfl c⟩
    have hno2 : ¬ ((1 ≤ v0 ∧ v0 ≤ 9) ∧ a 0 < 5) → ∀ r : Int32, r ≠ 0 → K r σ := fun c => hno (decide_eq_false c)
    exact q_problemOfGate hR hW h0 (fun c1 c2 => hok (decide_eq_true ⟨c1, c2⟩)) (fun c => hno2 (fun z => c z.1) 2 (by decide)) (fun _ c => hno2 (fun z => by omega) 3 (by decide))
  · refine ⟨fun c => absurd c (by decide), fun _ => ?_, fun c => absurd c (by decide), fun c => absurd c (by decide), fun c => absurd c (by decide), fun c => absurd c (by decide), fun c => absurd c (by decide), fun c => absurd c (by decide), fun _ c => absurd rfl c⟩
    have hno2 : ¬ ((1 ≤ v0 ∧ v0 ≤ 9) ∧ a 1 < 10) → ∀ r : Int32, r ≠ 0 → K r σ := fun c => hno (decide_eq_false c)
    exact q_problemOfGuard hR hW h0 (fun c1 c2 => hok (decide_eq_true ⟨c1, c2⟩)) (fun c => hno2 (fun z => c z.1) 2 (by decide)) (fun _ c => hno2 (fun z => by omega) 3 (by decide))
  · refine ⟨fun c => absurd c (by decide), fun c => absurd c (by decide), fun _ => ?_, fun c => absurd c (by decide), fun c => absurd c (by decide), fun c => absurd c (by decide), fun c => absurd c (by decide), fun c => absurd c (by decide), fun _ _ c => absurd rfl c⟩
    have hn : ¬ ((0 ≤ v0 ∧ v0 < a 0) ∧ (0 ≤ v1 ∧ v1 < 28) ∧ (0 ≤ v2 ∧ v2 < a 1) ∧ a 3 ≤ v1) → rfs a 2 v0 v1 v2 = none := fun c => if_neg c
    have hs : ((0 ≤ v0 ∧ v0 < a 0) ∧ (0 ≤ v1 ∧ v1 < 28) ∧ (0 ≤ v2 ∧ v2 < a 1) ∧ a 3 ≤ v1) → rfs a 2 v0 v1 v2 = some (rsn a v0 v1 v2, dtl a v0 v1 v2) := fun c => if_pos c
    have hno2 : ¬ ((0 ≤ v0 ∧ v0 < a 0) ∧ (0 ≤ v1 ∧ v1 < 28) ∧ (0 ≤ v2 ∧ v2 < a 1) ∧ a 3 ≤ v1 ∧ rsn a v0 v1 v2 = 0) → ∀ r : Int32, r ≠ 0 → K r (rcl σ (rfs a 2 v0 v1 v2)) := fun c => hno (decide_eq_false c)
    refine q_problemOfDuty hR hW h0 h1 h2 (fun c => ?_) (fun c1 c2 c3 c => ?_) (fun c1 c2 c3 c4 c5 => hok (decide_eq_true ⟨c1, c2, c3, c4, c5⟩)) (fun c1 c2 c3 c4 c5 => ?_)
    · have := hno2 (fun z => c ⟨z.1, z.2.1, z.2.2.1⟩) 1 (by decide)
      rw [hn (fun z => c ⟨z.1, z.2.1, z.2.2.1⟩)] at this
      exact this
    · have := hno2 (fun z => by omega) 3 (by decide)
      rw [hn (fun z => by omega)] at this
      exact this
    · have := hno2 (fun z => c5 z.2.2.2.2) 5 (by decide)
      rw [hs ⟨c1, c2, c3, c4⟩] at this
      exact this
  · refine ⟨fun c => absurd c (by decide), fun c => absurd c (by decide), fun c => absurd c (by decide), fun _ => ?_, fun c => absurd c (by decide), fun c => absurd c (by decide), fun c => absurd c (by decide), fun c => absurd c (by decide), fun _ _ _ c => absurd rfl c⟩
    have hno2 : ¬ ((0 ≤ v0 ∧ v0 < a 0) ∧ (0 ≤ v1 ∧ v1 < 28) ∧ a 3 ≤ v1 ∧ du a v0 v1 ≠ -1) → ∀ r : Int32, r ≠ 0 → K r σ := fun c => hno (decide_eq_false c)
    exact q_problemOfFreeing hR hW h0 h1 (fun c => hno2 (fun z => c ⟨z.1, z.2.1⟩) 1 (by decide)) (fun _ _ c => hno2 (fun z => by omega) 3 (by decide)) (fun c1 c2 c3 c4 => hok (decide_eq_true ⟨c1, c2, c3, c4⟩)) (fun _ _ _ c => hno2 (fun z => z.2.2.2 c) 4 (by decide))
  · refine ⟨fun c => absurd c (by decide), fun c => absurd c (by decide), fun c => absurd c (by decide), fun c => absurd c (by decide), fun _ => ?_, fun c => absurd c (by decide), fun c => absurd c (by decide), fun c => absurd c (by decide), fun _ _ _ _ c => absurd rfl c⟩
    have hn : ¬ ((0 ≤ v0 ∧ v0 < a 1) ∧ (0 ≤ v1 ∧ v1 ≤ v2 ∧ v2 < 28) ∧ a 3 ≤ v1) → rfs a 4 v0 v1 v2 = none := fun c => if_neg c
    have hs : ((0 ≤ v0 ∧ v0 < a 1) ∧ (0 ≤ v1 ∧ v1 ≤ v2 ∧ v2 < 28) ∧ a 3 ≤ v1) → rfs a 4 v0 v1 v2 = some (4, fgh a v0 v1 v2) := fun c => if_pos c
    have hno2 : ¬ ((0 ≤ v0 ∧ v0 < a 1) ∧ (0 ≤ v1 ∧ v1 ≤ v2 ∧ v2 < 28) ∧ a 3 ≤ v1 ∧ fgh a v0 v1 v2 = -1) → ∀ r : Int32, r ≠ 0 → K r (rcl σ (rfs a 4 v0 v1 v2)) := fun c => hno (decide_eq_false c)
    refine q_problemOfLeave hR hW h0 h1 h2 (fun c => ?_) (fun c1 c => ?_) (fun c1 c2 c => ?_) (fun c1 c2 c3 c4 => hok (decide_eq_true ⟨c1, c2, c3, c4⟩)) (fun c1 c2 c3 c4 => ?_)
    · have := hno2 (fun z => c z.1) 1 (by decide)
      rw [hn (fun z => c z.1)] at this
      exact this
    · have := hno2 (fun z => c z.2.1) 2 (by decide)
      rw [hn (fun z => c z.2.1)] at this
      exact this
    · have := hno2 (fun z => by omega) 3 (by decide)
      rw [hn (fun z => by omega)] at this
      exact this
    · have := hno2 (fun z => c4 z.2.2.2) 5 (by decide)
      rw [hs ⟨c1, c2, c3⟩] at this
      exact this
  · refine ⟨fun c => absurd c (by decide), fun c => absurd c (by decide), fun c => absurd c (by decide), fun c => absurd c (by decide), fun c => absurd c (by decide), fun _ => ?_, fun c => absurd c (by decide), fun c => absurd c (by decide), fun _ _ _ _ _ c => absurd rfl c⟩
    have hno2 : ¬ ((0 ≤ v0 ∧ v0 < 28) ∧ a 3 ≤ v0) → ∀ r : Int32, r ≠ 0 → K r σ := fun c => hno (decide_eq_false c)
    unfold wp_X4_problemOfFilling
    refine q_isSlot h0.1 h0.2 (fun c1 c2 => one_ne' ?_) (fun c => zero_eq' (hno2 (fun z => c z.1) 1 (by decide)))
    exact q_hasPassed hR hW h0.1 h0.2 (fun c => one_ne (hno2 (fun z => by omega) 3 (by decide))) (fun c => zero_eq (hok (decide_eq_true ⟨⟨c1, c2⟩, c⟩)))
  · refine ⟨fun c => absurd c (by decide), fun c => absurd c (by decide), fun c => absurd c (by decide), fun c => absurd c (by decide), fun c => absurd c (by decide), fun c => absurd c (by decide), fun _ => ?_, fun c => absurd c (by decide), fun _ _ _ _ _ _ c => absurd rfl c⟩
    have hno2 : ¬ ((1 ≤ v0 ∧ v0 ≤ 50) ∧ a 2 + v0 ≤ 99) → ∀ r : Int32, r ≠ 0 → K r σ := fun c => hno (decide_eq_false c)
    exact q_problemOfFood hR hW h0 (fun c1 c2 => hok (decide_eq_true ⟨c1, c2⟩)) (fun c => hno2 (fun z => c z.1) 2 (by decide)) (fun _ c => hno2 (fun z => by omega) 3 (by decide))
  · refine ⟨fun c => absurd c (by decide), fun c => absurd c (by decide), fun c => absurd c (by decide), fun c => absurd c (by decide), fun c => absurd c (by decide), fun c => absurd c (by decide), fun c => absurd c (by decide), fun _ => ?_, fun _ _ _ _ _ _ _ c => absurd rfl c⟩
    have hno2 : ¬ ((1 ≤ v0 ∧ v0 ≤ 28) ∧ a 3 + v0 ≤ 28) → ∀ r : Int32, r ≠ 0 → K r σ := fun c => hno (decide_eq_false c)
    exact q_problemOfPassing hR hW h0 (fun c => hno2 (fun z => c z.1) 2 (by decide)) (fun _ c => hno2 (fun z => by omega) 3 (by decide)) (fun c1 c2 => hok (decide_eq_true ⟨c1, c2⟩))
theorem q_carryOut {K : Mem → Prop} (hR : RC a (σ 2)) (hW : WF a) {k v0 v1 v2 : Int} (hk : 0 ≤ k ∧ k < 8) (hok : oks a k v0 v1 v2 = true) (h : ∀ σ', QF σ σ' → WF (nxs a k v0 v1 v2) → RC (nxs a k v0 v1 v2) (σ' 2) → K σ') : wp_X4_carryOut (zI k) (zI v0) (zI v1) (zI v2) σ K := by
  have hc := hW.c
  unfold wp_X4_carryOut
  rcases (by omega : k = 0 ∨ k = 1 ∨ k = 2 ∨ k = 3 ∨ k = 4 ∨ k = 5 ∨ k = 6 ∨ k = 7) with e | e | e | e | e | e | e | e <;> subst e
  · have ho : (1 ≤ v0 ∧ v0 ≤ 9) ∧ a 0 < 5 := of_decide_eq_true hok
    refine ⟨fun _ => ?_, fun c => absurd c (by decide), fun c => absurd c (by decide), fun c => absurd c (by decide), fun c => absurd c (by decide), fun c => absurd c (by decide), fun c => absurd c (by decide), fun c => absurd c (by decide), fun c => absurd rfl c⟩
    exact q_appendGate hR hW ho.2 (h _ (QF_t (QF_2 _ _ _) (QF_2 _ _ _)) (WF_addG hW ho.2 ho.1) (RC_u (RC_u hR (by omega) v0) (by decide) _))
  · have ho : (1 ≤ v0 ∧ v0 ≤ 9) ∧ a 1 < 10 := of_decide_eq_true hok
    refine ⟨fun c => absurd c (by decide), fun _ => ?_, fun c => absurd c (by decide), fun c => absurd c (by decide), fun c => absurd c (by decide), fun c => absurd c (by decide), fun c => absurd c (by decide), fun c => absurd c (by decide), fun _ c => absurd rfl c⟩
    exact q_appendGuard hR hW ho.2 (h _ (QF_t (QF_2 _ _ _) (QF_2 _ _ _)) (WF_addU hW ho.2 ho.1) (RC_u (RC_u hR (by omega) v0) (by decide) _))
  · have ho : (0 ≤ v0 ∧ v0 < a 0) ∧ (0 ≤ v1 ∧ v1 < 28) ∧ (0 ≤ v2 ∧ v2 < a 1) ∧ a 3 ≤ v1 ∧ rsn a v0 v1 v2 = 0 := of_decide_eq_true hok
    refine ⟨fun c => absurd c (by decide), fun c => absurd c (by decide), fun _ => ?_, fun c => absurd c (by decide), fun c => absurd c (by decide), fun c => absurd c (by decide), fun c => absurd c (by decide), fun c => absurd c (by decide), fun _ _ c => absurd rfl c⟩
    exact q_setDuty hR hW ho.1 ho.2.1 (h _ (QF_2 _ _ _) (WF_duty hW ho.1 ho.2.1 ⟨by omega, ho.2.2.1.2⟩) (RC.sd hR ho.1.1 ho.2.1.1 v2))
  · have ho : (0 ≤ v0 ∧ v0 < a 0) ∧ (0 ≤ v1 ∧ v1 < 28) ∧ a 3 ≤ v1 ∧ du a v0 v1 ≠ -1 := of_decide_eq_true hok
    refine ⟨fun c => absurd c (by decide), fun c => absurd c (by decide), fun c => absurd c (by decide), fun _ => ?_, fun c => absurd c (by decide), fun c => absurd c (by decide), fun c => absurd c (by decide), fun c => absurd c (by decide), fun _ _ _ c => absurd rfl c⟩
    rw [zl_m1]
    exact q_setDuty (u := -1) hR hW ho.1 ho.2.1 (h _ (QF_2 _ _ _) (WF_duty hW ho.1 ho.2.1 ⟨by omega, by omega⟩) (RC.sd hR ho.1.1 ho.2.1.1 (-1)))
  · have ho : (0 ≤ v0 ∧ v0 < a 1) ∧ (0 ≤ v1 ∧ v1 ≤ v2 ∧ v2 < 28) ∧ a 3 ≤ v1 ∧ fgh a v0 v1 v2 = -1 := of_decide_eq_true hok
    refine ⟨fun c => absurd c (by decide), fun c => absurd c (by decide), fun c => absurd c (by decide), fun c => absurd c (by decide), fun _ => ?_, fun c => absurd c (by decide), fun c => absurd c (by decide), fun c => absurd c (by decide), fun _ _ _ _ c => absurd rfl c⟩
    exact q_addLeave hR hW ho.1 ⟨ho.2.1.1, ho.2.1.2.1⟩ ho.2.1.2.2 (h _ (QF_2 _ _ _) (WF_lv hW ⟨ho.1.1, by omega⟩ (gl_lt hW ⟨ho.1.1, by omega⟩ ⟨ho.2.1.1, ho.2.1.2.1⟩ ho.2.1.2.2)) (RC_lv hR ⟨ho.1.1, by omega⟩ _))
  · have ho : (0 ≤ v0 ∧ v0 < 28) ∧ a 3 ≤ v0 := of_decide_eq_true hok
    refine ⟨fun c => absurd c (by decide), fun c => absurd c (by decide), fun c => absurd c (by decide), fun c => absurd c (by decide), fun c => absurd c (by decide), fun _ => ?_, fun c => absurd c (by decide), fun c => absurd c (by decide), fun _ _ _ _ _ c => absurd rfl c⟩
    exact q_fill hR hW ho.1 (fun row w1 w2 => h _ (QF_t (QF_3 _ _) (QF_u _ _)) w1 w2)
  · have ho : (1 ≤ v0 ∧ v0 ≤ 50) ∧ a 2 + v0 ≤ 99 := of_decide_eq_true hok
    refine ⟨fun c => absurd c (by decide), fun c => absurd c (by decide), fun c => absurd c (by decide), fun c => absurd c (by decide), fun c => absurd c (by decide), fun c => absurd c (by decide), fun _ => ?_, fun c => absurd c (by decide), fun _ _ _ _ _ _ c => absurd rfl c⟩
    unfold wp_X2_store
    intro σ1 e1
    rw [hR.1 2 (by decide), zI_add] at e1
    subst e1
    exact h _ (QF_2 _ _ _) (WF_food hW (by omega)) (RC_u hR (by decide) _)
  · have ho : (1 ≤ v0 ∧ v0 ≤ 28) ∧ a 3 + v0 ≤ 28 := of_decide_eq_true hok
    refine ⟨fun c => absurd c (by decide), fun c => absurd c (by decide), fun c => absurd c (by decide), fun c => absurd c (by decide), fun c => absurd c (by decide), fun c => absurd c (by decide), fun c => absurd c (by decide), fun _ => ?_, fun _ _ _ _ _ _ _ c => absurd rfl c⟩
    exact q_letPass hR hW (by omega) ho.2 (fun row w => h _ (QF_u _ _) (psl_W _ a 0 hW (by omega)) w)
end X1
