/-! guards for gates: the class -/
theorem q_pathsL {F : Int → Nat} (hF : ∀ k : Int, 0 ≤ k → k < 5 → F k < 1024) {σ : Mem} (h16 : ∀ k : Int, 0 ≤ k → k < 5 → σ 16 k.toNat = Int32.ofNat (F k)) {K : Int32 → Mem → Prop} (h : ∀ (y : Int32) (mg : Int → Int) (R : Nat), KI F 5 mg R → K (zI (mtd mg 10)) (SX σ y mg)) : ∀ (r : Nat) (i : Int) (y : Int32) (mg : Int → Int) (R : Nat), i + r = 5 → 0 ≤ i → KI F i mg R → wlp (wpF_X3_countByPaths_25 K) (r + 1) (zI (mtd mg 10), zI i, SX σ y mg)
  | 0, i, y, mg, R, hi, h0, hI => by
    have e : i = 5 := by omega
    subst e
    show wpS_X3_countByPaths_25 K _ (zI (mtd mg 10)) (zI 5) (SX σ y mg)
    exact ⟨fun _ => h y mg R hI, fun c => absurd (by decide) c⟩
  | r + 1, i, y, mg, R, hi, h0, hI => by
    show wpS_X3_countByPaths_25 K (wlp (wpF_X3_countByPaths_25 K) (r + 1)) (zI (mtd mg 10)) (zI i) (SX σ y mg)
    have hs := mt_sum1 hI.b
    have hz := hI.z i (Int.le_refl _) (by omega)
    have c0 := hI.c 0 (by decide) (by decide)
    have c1 := hI.c 1 (by decide) (by decide)
    have c2 := hI.c 2 (by decide) (by decide)
    have c3 := hI.c 3 (by decide) (by decide)
    have c4 := hI.c 4 (by decide) (by decide)
    have hm4 : mtd mg 10 ≤ 4 := by
      rcases (by omega : i = 0 ∨ i = 1 ∨ i = 2 ∨ i = 3 ∨ i = 4) with e | e | e | e | e <;> subst e <;> omega
    unfold wpS_X3_countByPaths_25 wpJ_X3_countByPaths_47 wp_X3_finds6
    rw [zl_5]
    refine br_le (by omega) (by omega) (fun c => absurd c (by omega)) (fun _ σ3 e3 => ?_)
    rw [SX_t] at e3
    subst e3
    have hd0 : (0 : Int) ≤ dmt 0 mg := (cn_rng _ (by decide)).1
    refine finds_all hF h16 6 i 0 0 mg _ ⟨h0, by omega⟩ (by decide) ⟨hI.b, hI.f⟩ (by decide) hd0 hm4 (by decide) (fun z mh hS => ?_) (fun U hA => ?_)
    · refine And.symm (one_ne' (fun v8 e8 v7 e7 => ?_))
      rw [zl_1, zI_add] at e8 e7
      subst e8; subst e7
      have hs2 := mt_sum1 hS.1.1
      have d0 := hS.2.1 0 (by decide) (by decide)
      have d1 := hS.2.1 1 (by decide) (by decide)
      have d2 := hS.2.1 2 (by decide) (by decide)
      have d3 := hS.2.1 3 (by decide) (by decide)
      have d4 := hS.2.1 4 (by decide) (by decide)
      have e : mtd mh 10 = mtd mg 10 + 1 := by
        rcases (by omega : i = 0 ∨ i = 1 ∨ i = 2 ∨ i = 3 ∨ i = 4) with e | e | e | e | e <;> subst e <;> simp at d0 d1 d2 d3 d4 <;> omega
      rw [← e]
      refine q_pathsL hF h16 h r (i + 1) z mh R (by omega) (by omega) ⟨hS.1.1, hS.1.2, fun k k1 k2 => ?_, fun k k1 k2 => ?_, hI.r, fun v v1 v2 v3 => ?_, fun k k1 k2 k3 => ?_⟩
      · have g1 := hS.2.1 k k1 k2
        have g2 := hI.c k k1 k2
        by_cases z : k = i
        · rw [if_pos z] at g1; rw [z] at g1 ⊢; omega
        · rw [if_neg z] at g1; omega
      · have g1 := hS.2.1 k (by omega) k2
        have g2 := hI.z k (by omega) k2
        rw [if_neg (show ¬ k = i by omega)] at g1
        omega
      · have h5 := (hS.2.2.2 R hI.cl).1 v v1 v2 v3
        rw [h5]
        exact hI.cl v v1 v2 v3
      · have := hS.2.1 k k1 (by omega)
        by_cases z : k = i
        · rw [if_pos z] at this; rw [z] at this k3; exact absurd k3 (by omega)
        · rw [if_neg z] at this
          exact hI.u k k1 (by omega) (by omega)
    · refine And.symm (zero_eq' (fun v7 e7 => ?_))
      rw [zl_1, zI_add] at e7
      subst e7
      refine q_pathsL hF h16 h r (i + 1) (Int32.ofNat U) mg (R ||| U) (by omega) (by omega) ⟨hI.b, hI.f, hI.c, fun k k1 k2 => hI.z k (by omega) k2, Nat.or_lt_two_pow (n := 10) hI.r hA.1.1, fun v v1 v2 v3 => ?_, fun k k1 k2 k3 w w1 w2 w3 => ?_⟩
      · rw [mb_orG, Bool.or_eq_true] at v3
        rcases v3 with v3 | v3
        · have := hI.cl v v1 v2 v3
          exact ⟨this.1, fun w w1 w2 w3 => by rw [mb_orG, this.2 w w1 w2 w3, Bool.true_or]⟩
        · have := hA.1.2.2 v v1 v2 v3 (mb_0 v)
          exact ⟨this.1, fun w w1 w2 w3 => by rw [mb_orG, this.2 w w1 w2 w3, Bool.or_true]⟩
      · rw [mb_orG]
        by_cases z : k = i
        · rw [z] at w3
          rw [hA.2 w w1 w2 w3, Bool.or_true]
        · rw [hI.u k k1 (by omega) k3 w w1 w2 w3, Bool.true_or]
def MFF (F : Int → Nat) : Int := mxF (bst F 10) 32
theorem cn_nil {p : Int → Bool} {n : Int} (hn : 0 ≤ n) (h : ∀ v, 0 ≤ v → v < n → p v = false) : cn p n = 0 := by
  rw [cn_cut (m := 0) (by decide) hn h, cn_0]
theorem q_countByPaths {F : Int → Nat} (hF : ∀ k : Int, 0 ≤ k → k < 5 → F k < 1024) {σ : Mem} (h16 : ∀ k : Int, 0 ≤ k → k < 5 → σ 16 k.toNat = Int32.ofNat (F k)) {K : Int32 → Mem → Prop} (h : ∀ (y : Int32) (f : Nat → Int32), K (zI (MFF F)) (va_up (st σ 15 2 y) 17 f)) : wp_X3_countByPaths σ K := by
  unfold wp_X3_countByPaths
  have h9 := lpI (F := wpF_X3_countByPaths_2 K) (fun i => (zI i, va_up σ 17 (tx (fun _ => 0) i (σ 17)))) (fun i => 0 ≤ i) 10 (fun B hP => ?_) (fun i B hi hP hB => ?_) 0 (by decide) (by decide)
  · rw [tx_0, up_s] at h9
    exact h9
  · show wpS_X3_countByPaths_2 K B (zI 10) (va_up σ 17 (tx (fun _ => 0) 10 (σ 17)))
    refine ⟨fun _ => ⟨6, ?_⟩, fun c => absurd (by decide) c⟩
    have e : SX σ (σ 15 2) (fun _ => 0) = va_up σ 17 (tx (fun _ => 0) 10 (σ 17)) := by
      unfold SX
      rw [st_s]
    have e0 : mtd (fun _ => 0) 10 = 0 := cn_nil (by decide) (fun v _ _ => rfl)
    have hL := q_pathsL hF h16 (K := K) (fun y mg R hI => by
      rw [(most_eq hF hI).1]
      exact h y _) 5 0 (σ 15 2) (fun _ => 0) 0 (by decide) (by decide) ⟨fun _ _ _ => by show (0 : Int) ≤ 0 ∧ (0 : Int) ≤ 5; decide, fun _ _ _ c => absurd rfl c, fun k k1 k2 => by
        have : cnt (fun _ => 0) k = 0 := cn_nil (by decide) (fun v _ _ => decide_eq_false (show ¬ (0 : Int) = k + 1 by omega))
        omega, fun k k1 k2 => cn_nil (by decide) (fun v _ _ => decide_eq_false (show ¬ (0 : Int) = k + 1 by omega)), by decide, fun v _ _ c => by rw [mb_0] at c; exact absurd c (by decide), fun k k1 k2 => absurd k1 (by omega)⟩
    rw [e, e0] at hL
    exact hL
  · show wpS_X3_countByPaths_2 K B (zI i) (va_up σ 17 (tx (fun _ => 0) i (σ 17)))
    have hB2 := hB (by omega)
    unfold wpS_X3_countByPaths_2
    rw [zl_10]
    refine br_le (by omega) (by omega) (fun c => absurd c (by omega)) (fun _ => ⟨zI_in (by omega) (by omega) (by decide), fun σ9 e9 v10 e10 => ?_⟩)
    rw [zI_nat hP (by omega), st_u] at e9
    rw [zl_1, zI_add] at e10
    subst e9; subst e10
    have e : upd (tx (fun _ => 0) i (σ 17)) i.toNat (0 : Int32) = tx (fun _ => 0) (i + 1) (σ 17) := tx_s (fun _ => 0) hP (σ 17)
    rw [e]
    exact hB2
section S0
variable {a : Nat → Int} {σ : Mem}
def fmN (a : Nat → Int) (k s : Int) : Nat → Nat
  | 0 => 0
  | u + 1 => if rsn a k s u = 0 then fmN a k s u ||| 2 ^ u else fmN a k s u
theorem fmN_lt (a : Nat → Int) (k s : Int) : ∀ u : Nat, u ≤ 10 → fmN a k s u < 1024
  | 0, _ => by show 0 < 1024; decide
  | u + 1, h => by
    have ih := fmN_lt a k s u (by omega)
    unfold fmN
    split
    · exact Nat.or_lt_two_pow (n := 10) ih (Nat.pow_lt_pow_right (by decide) (by omega))
    · exact ih
theorem fmN_mb (a : Nat → Int) (k s : Int) : ∀ (u : Nat) (v : Int), 0 ≤ v → mb (fmN a k s u) v = (decide (v < u) && decide (rsn a k s v = 0))
  | 0, v, hv => by
    show mb 0 v = _
    rw [mb_0, decide_eq_false (show ¬ v < ((0 : Nat) : Int) by omega), Bool.false_and]
  | u + 1, v, hv => by
    have ih := fmN_mb a k s u v hv
    unfold fmN
    by_cases c : rsn a k s u = 0
    · rw [if_pos c, show (2 : Nat) ^ u = 2 ^ ((u : Nat) : Int).toNat by rw [Int.toNat_natCast], mb_pl (by omega) hv, ih]
      by_cases d : v = u
      · rw [d, decide_eq_true (show ((u : Nat) : Int) < ((u + 1 : Nat) : Int) by omega), decide_eq_true c]; simp
      · rw [decide_eq_false d, Bool.or_false]
        by_cases e : v < u
        · rw [decide_eq_true e, decide_eq_true (show v < ((u + 1 : Nat) : Int) by omega)]
        · rw [decide_eq_false e, decide_eq_false (show ¬ v < ((u + 1 : Nat) : Int) by omega)]
    · rw [if_neg c, ih]
      by_cases d : v = u
      · rw [d, decide_eq_false c, Bool.and_false, Bool.and_false]
      · by_cases e : v < u
        · rw [decide_eq_true e, decide_eq_true (show v < ((u + 1 : Nat) : Int) by omega)]
        · rw [decide_eq_false e, decide_eq_false (show ¬ v < ((u + 1 : Nat) : Int) by omega)]
def FF (a : Nat → Int) (s : Int) : Int → Nat := fun k => if 0 ≤ k ∧ k < a 0 then fmN a k s (a 1).toNat else 0
theorem FF_lt (hW : WF a) (s : Int) (k : Int) : FF a s k < 1024 := by
  have hc := hW.c
  unfold FF
  split
  · exact fmN_lt a k s _ (by omega)
  · decide
theorem q_guardsThatFit {K : Int32 → Mem → Prop} (hR : RC a (σ 2)) (hW : WF a) {k s : Int} (hk : 0 ≤ k ∧ k < a 0) (hs : 0 ≤ s ∧ s < 28) (h : K (Int32.ofNat (fmN a k s (a 1).toNat)) σ) : wp_X3_guardsThatFit (zI k) (zI s) σ K := by
  have hc := hW.c
  unfold wp_X3_guardsThatFit
  have h9 := lpI (F := wpF_X3_guardsThatFit_5 K) (fun i => (zI k, zI s, Int32.ofNat (fmN a k s i.toNat), zI i, σ)) (fun i => 0 ≤ i) (a 1) (fun B hP => ?_) (fun i B hi hP hB => ?_) 0 (by omega) (by decide)
  · exact h9
  · show wpS_X3_guardsThatFit_5 K B (zI k) (zI s) (Int32.ofNat (fmN a k s (a 1).toNat)) (zI (a 1)) σ
    unfold wpS_X3_guardsThatFit_5
    exact q_guards hR (br_le (by omega) (by omega) (fun _ => h) (fun c => absurd c (by omega)))
  · show wpS_X3_guardsThatFit_5 K B (zI k) (zI s) (Int32.ofNat (fmN a k s i.toNat)) (zI i) σ
    have hr := rsn_rng a k s i
    have hB2 := hB (by omega)
    rw [show (i + 1).toNat = i.toNat + 1 by omega, show fmN a k s (i.toNat + 1) = if rsn a k s (i.toNat : Nat) = 0 then fmN a k s i.toNat ||| 2 ^ i.toNat else fmN a k s i.toNat from rfl, show ((i.toNat : Nat) : Int) = i by omega] at hB2
    unfold wpS_X3_guardsThatFit_5 wpJ_X3_guardsThatFit_32
    refine q_guards hR (br_le (by omega) (by omega) (fun c => absurd c (by omega)) (fun _ => ?_))
    refine q_reasonAgainst hR hW hk hs ⟨hP, hi⟩ (br_n0 (by omega) (fun c v8 e8 v7 e7 => ?_) (fun c v7 e7 => ?_))
    · rw [zI_t hP, sh_2 _ (by omega), i_or] at e8
      rw [zl_1, zI_add] at e7
      subst e8; subst e7
      rw [if_pos c] at hB2
      exact hB2
    · rw [zl_1, zI_add] at e7
      subst e7
      rw [if_neg c] at hB2
      exact hB2
def fr (F : Int → Nat) (n : Int) (c : Nat → Int32) : Nat → Int32 := fun j => if (j : Int) < n then Int32.ofNat (F j) else c j
theorem q_prepare {K : Mem → Prop} (hR : RC a (σ 2)) (hW : WF a) {s : Int} (hs : 0 ≤ s ∧ s < 28) (h : K (va_up σ 16 (fr (FF a s) 5 (σ 16)))) : wp_X3_prepare (zI s) σ K := by
  have hc := hW.c
  unfold wp_X3_prepare
  have h9 := lpI (F := wpF_X3_prepare_2 K) (fun i => (zI s, zI i, va_up σ 16 (fr (FF a s) i (σ 16)))) (fun i => 0 ≤ i) 5 (fun B hP => ?_) (fun i B hi hP hB => ?_) 0 (by decide) (by decide)
  · have e0 : fr (FF a s) 0 (σ 16) = σ 16 := by
      funext j
      exact if_neg (by omega)
    rw [e0, up_s] at h9
    exact h9
  · show wpS_X3_prepare_2 K B (zI s) (zI 5) (va_up σ 16 (fr (FF a s) 5 (σ 16)))
    exact ⟨fun _ => h, fun c => absurd (by decide) c⟩
  · show wpS_X3_prepare_2 K B (zI s) (zI i) (va_up σ 16 (fr (FF a s) i (σ 16)))
    have hB2 := hB (by omega)
    have hJ : wpJ_X3_prepare_30 K B (zI s) (zI i) (zI i) (Int32.ofNat (FF a s i)) (va_up σ 16 (fr (FF a s) i (σ 16))) := by
      unfold wpJ_X3_prepare_30
      refine ⟨zI_in (by omega) (by omega) (by decide), fun σ5 e5 v6 e6 => ?_⟩
      rw [zI_nat hP (by omega), st_u] at e5
      rw [zl_1, zI_add] at e6
      subst e5; subst e6
      have e : upd (fr (FF a s) i (σ 16)) i.toNat (Int32.ofNat (FF a s i)) = fr (FF a s) (i + 1) (σ 16) := by
        funext j
        unfold upd fr
        by_cases c : j = i.toNat
        · rw [if_pos c, if_pos (by omega), show ((j : Nat) : Int) = i by omega]
        · rw [if_neg c]
          by_cases c2 : (j : Int) < i
          · rw [if_pos c2, if_pos (by omega)]
          · rw [if_neg c2, if_neg (by omega)]
      rw [e]
      exact hB2
    unfold wpS_X3_prepare_2
    rw [zl_5]
    refine br_le (by omega) (by omega) (fun c => absurd c (by omega)) (fun _ => ?_)
    refine q_isGate (σ := va_up σ 16 (fr (FF a s) i (σ 16))) hR hW (by omega) (by omega) (fun c1 c2 => one_ne ?_) (fun c => zero_eq ?_)
    · refine q_guardsThatFit (σ := va_up σ 16 (fr (FF a s) i (σ 16))) hR hW ⟨c1, c2⟩ hs ?_
      rw [show FF a s i = fmN a i s (a 1).toNat from if_pos ⟨c1, c2⟩] at hJ
      exact hJ
    · rw [show FF a s i = 0 from if_neg c] at hJ
      exact hJ
theorem fr_16 (F : Int → Nat) (c : Nat → Int32) {k : Int} (h0 : 0 ≤ k) (h5 : k < 5) : fr F 5 c k.toNat = Int32.ofNat (F k) := by
  unfold fr
  rw [if_pos (by omega), show ((k.toNat : Nat) : Int) = k by omega]
end S0
/-! sets of gates -/
def tz (x : Nat) : Nat := if x % 2 = 1 then 0 else if x / 2 % 2 = 1 then 1 else if x / 4 % 2 = 1 then 2 else if x / 8 % 2 = 1 then 3 else 4
theorem tz_1 : ∀ x < 32, x ≠ 0 → (Int32.ofNat x ^^^ (-1 : Int32)) &&& (Int32.ofNat x - 1) = Int32.ofNat (2 ^ tz x - 1) := by decide +kernel
theorem tz_2 : ∀ x < 32, tz x < 5 := by decide +kernel
theorem q_ntz {σ : Mem} {K : Int32 → Mem → Prop} {x : Nat} (hx : x < 32) (h0 : x ≠ 0) (h : K (Int32.ofNat (tz x)) σ) : wp_J6_numberOfTrailingZeros_0f7a4 (Int32.ofNat x) σ K := by
  unfold wp_J6_numberOfTrailingZeros_0f7a4 wpJ_J6_numberOfTrailingZeros_0f7a4_34 wpJ_J6_numberOfTrailingZeros_0f7a4_49 wpJ_J6_numberOfTrailingZeros_0f7a4_62 wpJ_J6_numberOfTrailingZeros_0f7a4_74
  intro v1 e1
  rw [tz_1 x hx h0] at e1
  have ht := tz_2 x hx
  generalize tz x = t at *
  rcases (by omega : t = 0 ∨ t = 1 ∨ t = 2 ∨ t = 3 ∨ t = 4) with e | e | e | e | e <;> subst e <;> subst e1
  · exact ⟨fun c => absurd c (by decide), fun _ => h⟩
  · exact ⟨fun _ => ⟨fun _ => ⟨fun _ => ⟨fun _ => ⟨fun _ => h, fun c => absurd (by decide) c⟩, fun c => absurd (by decide) c⟩, fun c => absurd (by decide) c⟩, fun c => absurd (by decide) c⟩, fun c => absurd (by decide) c⟩
  · exact ⟨fun _ => ⟨fun _ => ⟨fun _ => ⟨fun _ => ⟨fun _ => h, fun c => absurd (by decide) c⟩, fun c => absurd (by decide) c⟩, fun c => absurd (by decide) c⟩, fun c => absurd (by decide) c⟩, fun c => absurd (by decide) c⟩
  · exact ⟨fun _ => ⟨fun _ => ⟨fun _ => ⟨fun _ => ⟨fun c => absurd c (by decide), fun _ v7 e7 v8 e8 => by subst e7; subst e8; exact h⟩, fun c => absurd (by decide) c⟩, fun c => absurd (by decide) c⟩, fun c => absurd (by decide) c⟩, fun c => absurd (by decide) c⟩
  · exact ⟨fun _ => ⟨fun _ => ⟨fun _ => ⟨fun _ => ⟨fun c => absurd c (by decide), fun _ v7 e7 v8 e8 => by subst e7; subst e8; exact h⟩, fun c => absurd (by decide) c⟩, fun c => absurd (by decide) c⟩, fun c => absurd (by decide) c⟩, fun c => absurd (by decide) c⟩
theorem nb_d : ∀ x < 32, x ≠ 0 → ∀ b0 b1 b2 b3 b4 : Bool, ((mb x 0 && b0) || ((mb x 1 && b1) || ((mb x 2 && b2) || ((mb x 3 && b3) || (mb x 4 && b4))))) = (((mb (x &&& (x - 1)) 0 && b0) || ((mb (x &&& (x - 1)) 1 && b1) || ((mb (x &&& (x - 1)) 2 && b2) || ((mb (x &&& (x - 1)) 3 && b3) || (mb (x &&& (x - 1)) 4 && b4))))) || (if tz x = 0 then b0 else if tz x = 1 then b1 else if tz x = 2 then b2 else if tz x = 3 then b3 else b4)) := by decide +kernel
theorem nb_x : ∀ x < 32, x ≠ 0 → Int32.ofNat x &&& (Int32.ofNat x - 1) = Int32.ofNat (x &&& (x - 1)) ∧ (x &&& (x - 1)) < x := by decide +kernel
theorem NB_s {F : Int → Nat} {x : Nat} (hx : x < 32) (h0 : x ≠ 0) : NB F x = NB F (x &&& (x - 1)) ||| F (tz x : Nat) := by
  have ht := tz_2 x hx
  apply Nat.eq_of_testBit_eq
  intro i
  have e1 := NB_mb F x (i : Nat)
  have e2 := NB_mb F (x &&& (x - 1)) (i : Nat)
  rw [mb_tb, Int.toNat_natCast] at e1 e2
  rw [Nat.testBit_or, e1, e2, nb_d x hx h0]
  congr 1
  rcases (by omega : tz x = 0 ∨ tz x = 1 ∨ tz x = 2 ∨ tz x = 3 ∨ tz x = 4) with e | e | e | e | e <;> rw [e] <;> simp [mb_tb]
theorem NB_0 (F : Int → Nat) : NB F 0 = 0 := by
  unfold NB
  simp [mb_0]
def nr (F : Int → Nat) (n : Int) (c : Nat → Int32) : Nat → Int32 := fun j => if (j : Int) < n ∧ j ≠ 0 then Int32.ofNat (NB F j) else c j
theorem q_countBySets {F : Int → Nat} (hF : ∀ k : Int, 0 ≤ k → k < 5 → F k < 1024) {σ : Mem} (h16 : ∀ k : Int, 0 ≤ k → k < 5 → σ 16 k.toNat = Int32.ofNat (F k)) (h18 : σ 18 0 = 0) {K : Int32 → Mem → Prop} (h : K (zI (5 - mxF (dfc F) 32)) (va_up σ 18 (nr F 32 (σ 18)))) : wp_X3_countBySets σ K := by
  unfold wp_X3_countBySets
  have hdr : ∀ i : Nat, i ≤ 32 → 0 ≤ mxF (dfc F) i ∧ mxF (dfc F) i ≤ 5 := fun i hi => by
    refine ⟨mxF_0 _ _, ?_⟩
    rcases mxF_is (dfc F) i with e | ⟨j, j1, j2⟩
    · omega
    · have := s_5 j (by omega)
      have e : dfc F j = (sb j : Int) - (sb (NB F j) : Int) := rfl
      omega
  have h9 := lpI (F := wpF_X3_countBySets_4 K) (fun i => (zI (mxF (dfc F) i.toNat), zI i, va_up σ 18 (nr F i (σ 18)))) (fun i => 1 ≤ i) 32 (fun B hP => ?_) (fun i B hi hP hB => ?_) 1 (by decide) (by decide)
  · have e0 : nr F 1 (σ 18) = σ 18 := by
      funext j
      exact if_neg (by omega)
    have e1 : mxF (dfc F) (1 : Int).toNat = 0 := by
      have e2 : dfc F 0 = 0 := by
        have e3 : NB F 0 = 0 := by
          unfold NB
          simp [mb_0]
        show (sb 0 : Int) - (sb (NB F 0) : Int) = 0
        rw [e3]; decide
      show (if mxF (dfc F) 0 < dfc F 0 then dfc F 0 else mxF (dfc F) 0) = 0
      rw [e2]; rfl
    rw [e0, up_s, e1] at h9
    exact h9
  · show wpS_X3_countBySets_4 K B (zI (mxF (dfc F) 32)) (zI 32) (va_up σ 18 (nr F 32 (σ 18)))
    unfold wpS_X3_countBySets_4
    rw [zl_5, zI_sub]
    exact ⟨fun _ => h, fun c => absurd (by decide) c⟩
  · show wpS_X3_countBySets_4 K B (zI (mxF (dfc F) i.toNat)) (zI i) (va_up σ 18 (nr F i (σ 18)))
    have hB2 := hB (by omega)
    have hx : i.toNat < 32 := by omega
    have hx0 : i.toNat ≠ 0 := by omega
    have ht := tz_2 i.toNat hx
    have hnx := nb_x i.toNat hx hx0
    have hlt := NB_lt hF i.toNat
    have hm1 := hdr i.toNat (by omega)
    have hsb : (0 : Int) ≤ (sb i.toNat : Int) ∧ (sb i.toNat : Int) ≤ 28 ∧ (0 : Int) ≤ (sb (NB F i.toNat) : Int) ∧ (sb (NB F i.toNat) : Int) ≤ 28 := by
      have z : ∀ n, sb n ≤ 28 := fun n => by unfold sb; omega
      have z1 := z i.toNat
      have z2 := z (NB F i.toNat)
      omega
    unfold wpS_X3_countBySets_4 wpJ_X3_countBySets_43
    refine br_le (x := 32) (by omega) (by omega) (fun c => absurd c (by omega)) (fun _ => ?_)
    rw [zI_t (s := i) (by omega)]
    refine q_ntz hx hx0 ?_
    rw [← zI_n (tz i.toNat), zl_5]
    refine br_le (by omega) (by omega) (fun c => absurd c (by omega)) (fun _ => ?_)
    have hidx : nr F i (σ 18) (i.toNat &&& (i.toNat - 1)) = Int32.ofNat (NB F (i.toNat &&& (i.toNat - 1))) := by
      unfold nr
      by_cases z : (i.toNat &&& (i.toNat - 1)) = 0
      · rw [if_neg (fun x => x.2 z), z, h18, NB_0]; rfl
      · rw [if_pos ⟨by omega, z⟩]
    rw [hnx.1, ← zI_n (i.toNat &&& (i.toNat - 1)), ← zI_t (s := i) (by omega)]
    refine ⟨zI_in (by omega) (by omega) (by decide), zI_in (by omega) (by omega) (by decide), zI_in (by omega) (by omega) (by decide), fun σ12 e12 => ?_⟩
    rw [zI_nat (by omega) (by omega), zI_nat (by omega) (by omega), zI_nat (by omega) (by omega), Int.toNat_natCast, up_e, hidx, show va_up σ 18 (nr F i (σ 18)) 16 = σ 16 from rfl, h16 _ (by omega) (by omega), i_or, ← NB_s hx hx0, st_u] at e12
    have e : upd (nr F i (σ 18)) i.toNat (Int32.ofNat (NB F i.toNat)) = nr F (i + 1) (σ 18) := by
      funext j
      unfold upd nr
      by_cases c : j = i.toNat
      · rw [if_pos c, if_pos ⟨by omega, by omega⟩, c]
      · rw [if_neg c]
        by_cases c2 : (j : Int) < i ∧ j ≠ 0
        · rw [if_pos c2, if_pos ⟨by omega, c2.2⟩]
        · rw [if_neg c2, if_neg (fun x => c2 ⟨by omega, x.2⟩)]
    rw [e] at e12
    subst e12
    rw [zI_t (s := i) (by omega)]
    refine q_bitCount (by omega) ?_
    rw [← zI_t (s := i) (by omega)]
    refine ⟨zI_in (by omega) (by omega) (by decide), ?_⟩
    have e3 : va_up σ 18 (nr F (i + 1) (σ 18)) 18 (zI i).toNatClampNeg = Int32.ofNat (NB F i.toNat) := by
      rw [zI_nat (by omega) (by omega), up_e]
      exact if_pos ⟨by omega, hx0⟩
    rw [e3]
    refine q_bitCount (by omega) (fun v9 e9 v10 e10 v11 e11 => ?_)
    rw [← zI_n, ← zI_n, zI_sub] at e9
    subst e9
    rw [zI_max (by omega) (by omega)] at e10
    rw [zl_1, zI_add] at e11
    subst e10; subst e11
    rw [show (i + 1).toNat = i.toNat + 1 by omega] at hB2
    exact hB2
