/-! guards for gates: the mathematics -/
theorem mb_tb (m : Nat) (k : Int) : mb m k = m.testBit k.toNat := by
  unfold mb
  rw [Nat.testBit_eq_decide_div_mod_eq]
theorem mb_orG (m p : Nat) (v : Int) : mb (m ||| p) v = (mb m v || mb p v) := by
  rw [mb_tb, mb_tb, mb_tb, Nat.testBit_or]
theorem mb_pow {u v : Int} (hu : 0 ≤ u) (hv : 0 ≤ v) : mb (2 ^ u.toNat) v = decide (v = u) := by
  rw [mb_tb, Nat.testBit_two_pow]
  by_cases c : v = u
  · rw [c]; simp
  · rw [decide_eq_false c, decide_eq_false (by omega)]
theorem mb_0 (v : Int) : mb 0 v = false := by
  rw [mb_tb, Nat.zero_testBit]
theorem sb_cn : ∀ N < 1024, (sb N : Int) = cn (fun v => mb N v) 10 := by decide +kernel
theorem sb5 : ∀ B < 32, (sb B : Int) = (if mb B 0 = true then 1 else 0) + (if mb B 1 = true then 1 else 0) + (if mb B 2 = true then 1 else 0) + (if mb B 3 = true then 1 else 0) + (if mb B 4 = true then 1 else 0) := by decide +kernel
theorem s_1 : ∀ X < 32, ∀ B < 32, ∀ k < 5, mb X (k : Nat) = true → sb (X &&& B) ≤ sb ((X - 2 ^ k) &&& B) + (if mb B (k : Nat) = true then 1 else 0) := by decide +kernel
theorem s_2 : ∀ X < 32, ∀ B < 32, sb X + sb B ≤ sb (X &&& B) + 5 := by decide +kernel
theorem s_3 : ∀ X < 32, ∀ k < 5, mb X (k : Nat) = false → (X ||| 2 ^ k) - 2 ^ k = X ∧ sb (X ||| 2 ^ k) = sb X + 1 ∧ (X ||| 2 ^ k) < 32 := by decide +kernel
theorem s_4 : ∀ X < 32, ∀ k < 5, mb X (k : Nat) = true → (X - 2 ^ k) < 32 ∧ (X - 2 ^ k) ||| 2 ^ k = X ∧ mb (X - 2 ^ k) (k : Nat) = false ∧ X - 2 ^ k < X := by decide +kernel
theorem s_5 : ∀ X < 32, sb X ≤ 5 := by decide +kernel
/-- the sets of gates that the first u guards can serve -/
def Mt (F : Int → Nat) : Nat → Nat → Bool
  | 0, X => decide (X = 0)
  | u + 1, X => Mt F u X || (List.range 5).any (fun k => mb X (k : Nat) && (mb (F (k : Nat)) (u : Nat) && Mt F u (X - 2 ^ k)))
theorem Mt_s {F : Int → Nat} {u X : Nat} : Mt F (u + 1) X = true ↔ (Mt F u X = true ∨ ∃ k : Nat, k < 5 ∧ mb X k = true ∧ mb (F k) u = true ∧ Mt F u (X - 2 ^ k) = true) := by
  show (Mt F u X || (List.range 5).any (fun k => mb X (k : Nat) && (mb (F (k : Nat)) (u : Nat) && Mt F u (X - 2 ^ k)))) = true ↔ _
  rw [Bool.or_eq_true, List.any_eq_true]
  constructor
  · rintro (h | ⟨k, h1, h2⟩)
    · exact Or.inl h
    · rw [Bool.and_eq_true, Bool.and_eq_true] at h2
      exact Or.inr ⟨k, List.mem_range.1 h1, h2⟩
  · rintro (h | ⟨k, h1, h2⟩)
    · exact Or.inl h
    · exact Or.inr ⟨k, List.mem_range.2 h1, by rw [Bool.and_eq_true, Bool.and_eq_true]; exact h2⟩
/-- the guards that fit one of a set of gates -/
def NB (F : Int → Nat) (B : Nat) : Nat := (if mb B 0 = true then F 0 else 0) ||| ((if mb B 1 = true then F 1 else 0) ||| ((if mb B 2 = true then F 2 else 0) ||| ((if mb B 3 = true then F 3 else 0) ||| (if mb B 4 = true then F 4 else 0))))
theorem mb_if (c : Bool) (m : Nat) (v : Int) : mb (if c = true then m else 0) v = (c && mb m v) := by
  cases c
  · exact mb_0 v
  · rfl
theorem NB_mb (F : Int → Nat) (B : Nat) (v : Int) : mb (NB F B) v = ((mb B 0 && mb (F 0) v) || ((mb B 1 && mb (F 1) v) || ((mb B 2 && mb (F 2) v) || ((mb B 3 && mb (F 3) v) || (mb B 4 && mb (F 4) v))))) := by
  unfold NB
  rw [mb_orG, mb_orG, mb_orG, mb_orG, mb_if, mb_if, mb_if, mb_if, mb_if]
theorem NB_in {F : Int → Nat} {B : Nat} {v : Int} {k : Nat} (hk : k < 5) (h1 : mb B k = true) (h2 : mb (F k) v = true) : mb (NB F B) v = true := by
  rw [NB_mb]
  rcases (by omega : k = 0 ∨ k = 1 ∨ k = 2 ∨ k = 3 ∨ k = 4) with e | e | e | e | e <;> subst e <;> (first | rw [show ((0 : Nat) : Int) = 0 from rfl] at h1 h2 | rw [show ((1 : Nat) : Int) = 1 from rfl] at h1 h2 | rw [show ((2 : Nat) : Int) = 2 from rfl] at h1 h2 | rw [show ((3 : Nat) : Int) = 3 from rfl] at h1 h2 | rw [show ((4 : Nat) : Int) = 4 from rfl] at h1 h2) <;> rw [h1, h2] <;> simp
theorem NB_out {F : Int → Nat} {B : Nat} {v : Int} (h : mb (NB F B) v = true) : ∃ k : Nat, k < 5 ∧ mb B k = true ∧ mb (F k) v = true := by
  rw [NB_mb] at h
  simp only [Bool.or_eq_true, Bool.and_eq_true] at h
  rcases h with h | h | h | h | h
  · exact ⟨0, by decide, h⟩
  · exact ⟨1, by decide, h⟩
  · exact ⟨2, by decide, h⟩
  · exact ⟨3, by decide, h⟩
  · exact ⟨4, by decide, h⟩
theorem NB_lt {F : Int → Nat} (hF : ∀ k : Int, 0 ≤ k → k < 5 → F k < 1024) (B : Nat) : NB F B < 1024 := by
  have h : ∀ (c : Bool) (k : Int), 0 ≤ k → k < 5 → (if c = true then F k else 0) < 2 ^ 10 := fun c k h1 h2 => by
    cases c
    · show 0 < 2 ^ 10
      decide
    · exact hF k h1 h2
  unfold NB
  exact Nat.or_lt_two_pow (n := 10) (h _ 0 (by decide) (by decide)) (Nat.or_lt_two_pow (h _ 1 (by decide) (by decide)) (Nat.or_lt_two_pow (h _ 2 (by decide) (by decide)) (Nat.or_lt_two_pow (h _ 3 (by decide) (by decide)) (h _ 4 (by decide) (by decide)))))
theorem Mt_hall {F : Int → Nat} : ∀ (u X : Nat), X < 32 → Mt F u X = true → ∀ B, B < 32 → (sb (X &&& B) : Int) ≤ cn (fun v => mb (NB F B) v) u
  | 0, X, _, h, B, _ => by
    have e : X = 0 := of_decide_eq_true h
    subst e
    rw [Nat.zero_and]
    exact Int.le_refl _
  | u + 1, X, hX, h, B, hB => by
    rw [show ((u + 1 : Nat) : Int) = (u : Int) + 1 by omega, cn_s _ (by omega)]
    rcases Mt_s.1 h with h | ⟨k, hk, h1, h2, h3⟩
    · have := Mt_hall u X hX h B hB
      split <;> omega
    · have h4 := s_4 X hX k hk h1
      have := Mt_hall u (X - 2 ^ k) h4.1 h3 B hB
      have h5 := s_1 X hX B hB k hk h1
      by_cases c : mb B (k : Nat) = true
      · rw [if_pos c] at h5
        rw [if_pos (NB_in hk c h2)]
        omega
      · rw [if_neg c] at h5
        split <;> omega
def mxF (f : Nat → Int) : Nat → Int
  | 0 => 0
  | n + 1 => if mxF f n < f n then f n else mxF f n
theorem mxF_0 (f : Nat → Int) : ∀ n, 0 ≤ mxF f n
  | 0 => Int.le_refl _
  | n + 1 => by
    have := mxF_0 f n
    unfold mxF
    split <;> omega
theorem mxF_ge (f : Nat → Int) : ∀ n i, i < n → f i ≤ mxF f n
  | 0, i, h => absurd h (by omega)
  | n + 1, i, h => by
    have ih := fun h2 => mxF_ge f n i h2
    unfold mxF
    by_cases c : i = n
    · subst c; split <;> omega
    · have := ih (by omega); split <;> omega
theorem mxF_is (f : Nat → Int) : ∀ n, mxF f n = 0 ∨ ∃ i, i < n ∧ mxF f n = f i
  | 0 => Or.inl rfl
  | n + 1 => by
    unfold mxF
    split
    · exact Or.inr ⟨n, by omega, rfl⟩
    · rcases mxF_is f n with h | ⟨i, h1, h2⟩
      · exact Or.inl h
      · exact Or.inr ⟨i, by omega, h2⟩
def bst (F : Int → Nat) (u : Nat) (X : Nat) : Int := if Mt F u X = true then (sb X : Int) else -1
def dfc (F : Int → Nat) (B : Nat) : Int := (sb B : Int) - (sb (NB F B) : Int)
theorem m_le_s {F : Int → Nat} (hF : ∀ k : Int, 0 ≤ k → k < 5 → F k < 1024) : mxF (bst F 10) 32 ≤ 5 - mxF (dfc F) 32 := by
  have key : ∀ X, X < 32 → ∀ B, B < 32 → bst F 10 X ≤ 5 - dfc F B := fun X hX B hB => by
    unfold bst dfc
    have h2 := s_2 X hX B hB
    have h5 := s_5 B hB
    have h6 : (0 : Int) ≤ (sb (NB F B) : Int) := by omega
    split
    · rename_i c
      have h1 := Mt_hall 10 X hX c B hB
      rw [show ((10 : Nat) : Int) = 10 from rfl, ← sb_cn _ (NB_lt hF B)] at h1
      omega
    · omega
  have d0 : ∀ B, dfc F B = (sb B : Int) - (sb (NB F B) : Int) := fun _ => rfl
  have d1 : ∀ X, X < 32 → bst F 10 X ≤ 5 := fun X hX => by
    have h5 := s_5 X hX
    unfold bst
    split <;> omega
  rcases mxF_is (bst F 10) 32 with h | ⟨X, hX, h⟩
  · rcases mxF_is (dfc F) 32 with h3 | ⟨B, hB, h3⟩
    · omega
    · have h5 := s_5 B hB
      have := d0 B
      omega
  · rcases mxF_is (dfc F) 32 with h3 | ⟨B, hB, h3⟩
    · have h5 := d1 X hX
      omega
    · have := key X hX B hB
      omega
/-- a matching: mg of a guard is 0, or its gate and 1 -/
def cnt (mg : Int → Int) (k : Int) : Int := cn (fun v => decide (mg v = k + 1)) 10
def mtd (mg : Int → Int) (n : Int) : Int := cn (fun v => decide (mg v ≠ 0)) n
theorem mt_sum {mg : Int → Int} {p : Int → Bool} (h : ∀ v, 0 ≤ v → v < 10 → 0 ≤ mg v ∧ mg v ≤ 5) {n : Int} (hn : 0 ≤ n ∧ n ≤ 10) : cn (fun v => decide (mg v ≠ 0) && p v) n = cn (fun v => decide (mg v = 0 + 1) && p v) n + cn (fun v => decide (mg v = 1 + 1) && p v) n + cn (fun v => decide (mg v = 2 + 1) && p v) n + cn (fun v => decide (mg v = 3 + 1) && p v) n + cn (fun v => decide (mg v = 4 + 1) && p v) n := by
  have key := sm_ind (P := fun n => n ≤ 10 → cn (fun v => decide (mg v ≠ 0) && p v) n = cn (fun v => decide (mg v = 0 + 1) && p v) n + cn (fun v => decide (mg v = 1 + 1) && p v) n + cn (fun v => decide (mg v = 2 + 1) && p v) n + cn (fun v => decide (mg v = 3 + 1) && p v) n + cn (fun v => decide (mg v = 4 + 1) && p v) n) (fun _ => rfl) (fun k hk ih h10 => ?_) hn.1
  · exact key hn.2
  · have i := ih (by omega)
    have hv := h k hk (by omega)
    rw [cn_s _ hk, cn_s _ hk, cn_s _ hk, cn_s _ hk, cn_s _ hk, cn_s _ hk, i]
    rcases (by omega : mg k = 0 ∨ mg k = 1 ∨ mg k = 2 ∨ mg k = 3 ∨ mg k = 4 ∨ mg k = 5) with e | e | e | e | e | e <;> cases p k <;> simp [e] <;> omega
theorem mt_sum1 {mg : Int → Int} (h : ∀ v, 0 ≤ v → v < 10 → 0 ≤ mg v ∧ mg v ≤ 5) : mtd mg 10 = cnt mg 0 + cnt mg 1 + cnt mg 2 + cnt mg 3 + cnt mg 4 := by
  have := mt_sum (p := fun _ => true) h (n := 10) (by decide)
  simp only [Bool.and_true] at this
  exact this
/-- what holds of the matching after the first i gates -/
def KI (F : Int → Nat) (i : Int) (mg : Int → Int) (R : Nat) : Prop := (∀ v, 0 ≤ v → v < 10 → 0 ≤ mg v ∧ mg v ≤ 5) ∧ (∀ v, 0 ≤ v → v < 10 → mg v ≠ 0 → mb (F (mg v - 1)) v = true) ∧ (∀ k, 0 ≤ k → k < 5 → cnt mg k ≤ 1) ∧ (∀ k, i ≤ k → k < 5 → cnt mg k = 0) ∧ (R < 1024) ∧ (∀ v, 0 ≤ v → v < 10 → mb R v = true → mg v ≠ 0 ∧ ∀ w, 0 ≤ w → w < 10 → mb (F (mg v - 1)) w = true → mb R w = true) ∧ (∀ k, 0 ≤ k → k < i → cnt mg k = 0 → ∀ w, 0 ≤ w → w < 10 → mb (F k) w = true → mb R w = true)
theorem KI.b {F : Int → Nat} {i : Int} {mg : Int → Int} {R : Nat} (h : KI F i mg R) : ∀ v, 0 ≤ v → v < 10 → 0 ≤ mg v ∧ mg v ≤ 5 := h.1
theorem KI.f {F : Int → Nat} {i : Int} {mg : Int → Int} {R : Nat} (h : KI F i mg R) : ∀ v, 0 ≤ v → v < 10 → mg v ≠ 0 → mb (F (mg v - 1)) v = true := h.2.1
theorem KI.c {F : Int → Nat} {i : Int} {mg : Int → Int} {R : Nat} (h : KI F i mg R) : ∀ k, 0 ≤ k → k < 5 → cnt mg k ≤ 1 := h.2.2.1
theorem KI.z {F : Int → Nat} {i : Int} {mg : Int → Int} {R : Nat} (h : KI F i mg R) : ∀ k, i ≤ k → k < 5 → cnt mg k = 0 := h.2.2.2.1
theorem KI.r {F : Int → Nat} {i : Int} {mg : Int → Int} {R : Nat} (h : KI F i mg R) : R < 1024 := h.2.2.2.2.1
theorem KI.cl {F : Int → Nat} {i : Int} {mg : Int → Int} {R : Nat} (h : KI F i mg R) : ∀ v, 0 ≤ v → v < 10 → mb R v = true → mg v ≠ 0 ∧ ∀ w, 0 ≤ w → w < 10 → mb (F (mg v - 1)) w = true → mb R w = true := h.2.2.2.2.2.1
theorem KI.u {F : Int → Nat} {i : Int} {mg : Int → Int} {R : Nat} (h : KI F i mg R) : ∀ k, 0 ≤ k → k < i → cnt mg k = 0 → ∀ w, 0 ≤ w → w < 10 → mb (F k) w = true → mb R w = true := h.2.2.2.2.2.2
def xs (mg : Int → Int) : Nat → Nat
  | 0 => 0
  | u + 1 => if mg u = 0 then xs mg u else xs mg u ||| 2 ^ (mg u - 1).toNat
theorem xs_ok {F : Int → Nat} {mg : Int → Int} {R : Nat} (h : KI F 5 mg R) : ∀ u : Nat, u ≤ 10 → Mt F u (xs mg u) = true ∧ (sb (xs mg u) : Int) = mtd mg u ∧ xs mg u < 32 ∧ ∀ k : Nat, k < 5 → mb (xs mg u) k = decide (1 ≤ cn (fun v => decide (mg v = k + 1)) u)
  | 0, _ => ⟨rfl, by show ((sb 0 : Nat) : Int) = cn _ 0; rw [cn_0]; rfl, by show 0 < 32; decide, fun k _ => by rw [show xs mg 0 = 0 from rfl, mb_0, show ((0 : Nat) : Int) = 0 from rfl, cn_0]; rfl⟩
  | u + 1, hu => by
    obtain ⟨i1, i2, i3, i4⟩ := xs_ok h u (by omega)
    have hb := h.b u (by omega) (by omega)
    have hc0 : ∀ k : Nat, cn (fun v => decide (mg v = (k : Int) + 1)) ((u + 1 : Nat) : Int) = cn (fun v => decide (mg v = (k : Int) + 1)) u + if mg u = (k : Int) + 1 then 1 else 0 := fun k => by
      rw [show ((u + 1 : Nat) : Int) = (u : Int) + 1 by omega, cn_s _ (by omega)]
      simp only [decide_eq_true_iff]
    have hm : mtd mg ((u + 1 : Nat) : Int) = mtd mg u + if mg u ≠ 0 then 1 else 0 := by
      unfold mtd
      rw [show ((u + 1 : Nat) : Int) = (u : Int) + 1 by omega, cn_s _ (by omega)]
      simp only [decide_eq_true_iff]
    by_cases c : mg u = 0
    · have e : xs mg (u + 1) = xs mg u := if_pos c
      rw [e]
      refine ⟨Mt_s.2 (Or.inl i1), ?_, i3, fun k hk => ?_⟩
      · rw [hm, if_neg (fun x => x c)]; omega
      · rw [hc0, if_neg (by omega), Int.add_zero]
        exact i4 k hk
    · have e : xs mg (u + 1) = xs mg u ||| 2 ^ (mg u - 1).toNat := if_neg c
      have hk : (mg u - 1).toNat < 5 := by omega
      have hkk : (((mg u - 1).toNat : Nat) : Int) = mg u - 1 := by omega
      have h10 := h.c (mg u - 1) (by omega) (by omega)
      have hmo := cn_mono (fun v => decide (mg v = mg u - 1 + 1)) (i := ((u + 1 : Nat) : Int)) (n := 10) (by omega) (by omega)
      have h11 := hc0 (mg u - 1).toNat
      rw [hkk, if_pos (by omega)] at h11
      unfold cnt at h10
      have hz := cn_rng (fun v => decide (mg v = mg u - 1 + 1)) (k := (u : Int)) (by omega)
      have hno : mb (xs mg u) ((mg u - 1).toNat : Nat) = false := by
        rw [i4 _ hk, hkk]
        exact decide_eq_false (by omega)
      have h3 := s_3 (xs mg u) i3 _ hk hno
      have hb2 : mb (xs mg u ||| 2 ^ (mg u - 1).toNat) ((mg u - 1).toNat : Nat) = true := by
        rw [mb_orG, show (2 : Nat) ^ (mg u - 1).toNat = 2 ^ ((((mg u - 1).toNat : Nat) : Int)).toNat by rw [Int.toNat_natCast], mb_pow (by omega) (by omega), decide_eq_true rfl, Bool.or_true]
      rw [e]
      refine ⟨Mt_s.2 (Or.inr ⟨(mg u - 1).toNat, hk, hb2, ?_, by rw [h3.1]; exact i1⟩), ?_, h3.2.2, fun k hk2 => ?_⟩
      · rw [hkk]
        exact h.f u (by omega) (by omega) c
      · rw [hm, if_pos c, h3.2.1]; omega
      · rw [mb_orG, i4 k hk2, hc0, mb_pow (by omega) (by omega)]
        have hz2 := cn_rng (fun v => decide (mg v = (k : Int) + 1)) (k := (u : Int)) (by omega)
        by_cases d : mg u = (k : Int) + 1
        · rw [if_pos d, decide_eq_true (show (k : Int) = mg u - 1 by omega), Bool.or_true]
          exact (decide_eq_true (by omega)).symm
        · rw [if_neg d, decide_eq_false (show ¬ (k : Int) = mg u - 1 by omega), Bool.or_false, Int.add_zero]
theorem p_le_m {F : Int → Nat} {mg : Int → Int} {R : Nat} (h : KI F 5 mg R) : mtd mg 10 ≤ mxF (bst F 10) 32 := by
  obtain ⟨i1, i2, i3, _⟩ := xs_ok h 10 (by decide)
  have := mxF_ge (bst F 10) 32 (xs mg 10) i3
  rw [show bst F 10 (xs mg 10) = (sb (xs mg 10) : Int) from if_pos i1] at this
  rw [show ((10 : Nat) : Int) = 10 from rfl] at i2
  omega
def bK (b : Int → Bool) : Nat := (if b 0 = true then 1 else 0) ||| ((if b 1 = true then 2 else 0) ||| ((if b 2 = true then 4 else 0) ||| ((if b 3 = true then 8 else 0) ||| (if b 4 = true then 16 else 0))))
theorem bK_d : ∀ b0 b1 b2 b3 b4 : Bool, ((if b0 = true then 1 else 0) ||| ((if b1 = true then 2 else 0) ||| ((if b2 = true then 4 else 0) ||| ((if b3 = true then 8 else 0) ||| (if b4 = true then 16 else 0))))) < 32 ∧ mb ((if b0 = true then 1 else 0) ||| ((if b1 = true then 2 else 0) ||| ((if b2 = true then 4 else 0) ||| ((if b3 = true then 8 else 0) ||| (if b4 = true then 16 else 0))))) 0 = b0 ∧ mb ((if b0 = true then 1 else 0) ||| ((if b1 = true then 2 else 0) ||| ((if b2 = true then 4 else 0) ||| ((if b3 = true then 8 else 0) ||| (if b4 = true then 16 else 0))))) 1 = b1 ∧ mb ((if b0 = true then 1 else 0) ||| ((if b1 = true then 2 else 0) ||| ((if b2 = true then 4 else 0) ||| ((if b3 = true then 8 else 0) ||| (if b4 = true then 16 else 0))))) 2 = b2 ∧ mb ((if b0 = true then 1 else 0) ||| ((if b1 = true then 2 else 0) ||| ((if b2 = true then 4 else 0) ||| ((if b3 = true then 8 else 0) ||| (if b4 = true then 16 else 0))))) 3 = b3 ∧ mb ((if b0 = true then 1 else 0) ||| ((if b1 = true then 2 else 0) ||| ((if b2 = true then 4 else 0) ||| ((if b3 = true then 8 else 0) ||| (if b4 = true then 16 else 0))))) 4 = b4 := by decide +kernel
theorem s_le_p {F : Int → Nat} (hF : ∀ k : Int, 0 ≤ k → k < 5 → F k < 1024) {mg : Int → Int} {R : Nat} (h : KI F 5 mg R) : 5 - mxF (dfc F) 32 ≤ mtd mg 10 := by
  let q : Int → Int := fun k => cn (fun v => decide (mg v = k + 1) && mb R v) 10
  let b : Int → Bool := fun k => decide (cnt mg k = 0) || decide (1 ≤ q k)
  have hB := bK_d (b 0) (b 1) (b 2) (b 3) (b 4)
  change bK b < 32 ∧ mb (bK b) 0 = b 0 ∧ mb (bK b) 1 = b 1 ∧ mb (bK b) 2 = b 2 ∧ mb (bK b) 3 = b 3 ∧ mb (bK b) 4 = b 4 at hB
  have hq : ∀ k, 0 ≤ k → k < 5 → (0 ≤ q k ∧ q k ≤ cnt mg k) ∧ (0 ≤ cnt mg k ∧ cnt mg k ≤ 1) := fun k k1 k2 => by
    have e := cn_or (p := fun v => decide (mg v = k + 1) && mb R v) (q := fun v => decide (mg v = k + 1) && !mb R v) (r := fun v => decide (mg v = k + 1)) (n := 10) (by decide) (fun i _ _ => by
      cases mb R i <;> simp)
    have z1 := cn_rng (fun v => decide (mg v = k + 1) && mb R v) (k := 10) (by decide)
    have z2 := cn_rng (fun v => decide (mg v = k + 1) && !mb R v) (k := 10) (by decide)
    have z3 := h.c k k1 k2
    have z4 : cnt mg k = q k + cn (fun v => decide (mg v = k + 1) && !mb R v) 10 := e
    have z5 : 0 ≤ q k := z1.1
    omega
  have hbk : ∀ k, 0 ≤ k → k < 5 → (if b k = true then (1 : Int) else 0) = 1 - cnt mg k + q k := fun k k1 k2 => by
    have h1 := hq k k1 k2
    by_cases c : cnt mg k = 0
    · have : b k = true := by show (decide (cnt mg k = 0) || decide (1 ≤ q k)) = true; rw [decide_eq_true c]; rfl
      rw [if_pos this]; omega
    · by_cases d : 1 ≤ q k
      · have : b k = true := by show (decide (cnt mg k = 0) || decide (1 ≤ q k)) = true; rw [decide_eq_true d, Bool.or_true]
        rw [if_pos this]; omega
      · have : ¬ b k = true := by
          show ¬ (decide (cnt mg k = 0) || decide (1 ≤ q k)) = true
          rw [decide_eq_false c, decide_eq_false d]; decide
        rw [if_neg this]; omega
  have hs := sb5 (bK b) hB.1
  rw [hB.2.1, hB.2.2.1, hB.2.2.2.1, hB.2.2.2.2.1, hB.2.2.2.2.2, hbk 0 (by decide) (by decide), hbk 1 (by decide) (by decide), hbk 2 (by decide) (by decide), hbk 3 (by decide) (by decide), hbk 4 (by decide) (by decide)] at hs
  have hm := mt_sum1 h.b
  have hr : (sb R : Int) = q 0 + q 1 + q 2 + q 3 + q 4 := by
    rw [sb_cn R h.r, ← mt_sum (p := fun v => mb R v) h.b (n := 10) (by decide)]
    refine cn_cong (fun v h0 h1 => ?_)
    cases e : mb R v with
    | false => rw [Bool.and_false]
    | true => rw [Bool.and_true]; exact (decide_eq_true (h.cl v h0 h1 e).1).symm
  have hbm : ∀ k : Nat, k < 5 → mb (bK b) k = b k := fun k hk => by
    rcases (by omega : k = 0 ∨ k = 1 ∨ k = 2 ∨ k = 3 ∨ k = 4) with e | e | e | e | e <;> subst e
    · exact hB.2.1
    · exact hB.2.2.1
    · exact hB.2.2.2.1
    · exact hB.2.2.2.2.1
    · exact hB.2.2.2.2.2
  have hN : (sb (NB F (bK b)) : Int) ≤ sb R := by
    rw [sb_cn _ (NB_lt hF _), sb_cn R h.r]
    have e := cn_or (p := fun v => mb (NB F (bK b)) v) (q := fun v => mb R v && !mb (NB F (bK b)) v) (r := fun v => mb R v) (n := 10) (by decide) (fun v v1 v2 => by
      have hsub : mb (NB F (bK b)) v = true → mb R v = true := fun x => by
        obtain ⟨k, k1, k2, k3⟩ := NB_out x
        rw [hbm k k1] at k2
        have k4 : (decide (cnt mg k = 0) || decide (1 ≤ q k)) = true := k2
        rw [Bool.or_eq_true, decide_eq_true_iff, decide_eq_true_iff] at k4
        rcases k4 with k4 | k4
        · exact h.u k (by omega) (by omega) k4 v v1 v2 k3
        · obtain ⟨j, j1, j2, j3⟩ := cn_pos (p := fun v => decide (mg v = (k : Int) + 1) && mb R v) (n := 10) (by decide) k4
          rw [Bool.and_eq_true, decide_eq_true_iff] at j3
          refine (h.cl j j1 j2 j3.2).2 v v1 v2 ?_
          rw [show mg j - 1 = k by omega]
          exact k3
      cases e1 : mb (NB F (bK b)) v with
      | true => rw [hsub e1]; simp
      | false => simp)
    have z2 := cn_rng (fun v => mb R v && !mb (NB F (bK b)) v) (k := 10) (by decide)
    omega
  have hg := mxF_ge (dfc F) 32 (bK b) hB.1
  have hd : dfc F (bK b) = (sb (bK b) : Int) - (sb (NB F (bK b)) : Int) := rfl
  omega
theorem most_eq {F : Int → Nat} (hF : ∀ k : Int, 0 ≤ k → k < 5 → F k < 1024) {mg : Int → Int} {R : Nat} (h : KI F 5 mg R) : mtd mg 10 = mxF (bst F 10) 32 ∧ 5 - mxF (dfc F) 32 = mxF (bst F 10) 32 := by
  have h1 := p_le_m h
  have h2 := s_le_p hF h
  have h3 := m_le_s hF
  omega
