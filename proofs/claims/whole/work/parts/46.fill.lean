/-! filling a slot -/
def mb (m : Nat) (k : Int) : Bool := decide (m / 2 ^ k.toNat % 2 = 1)
theorem mb_d : ∀ m < 32, ∀ g < 5, ∀ k < 5, (m ||| 2 ^ g) / 2 ^ k % 2 = if k = g then 1 else m / 2 ^ k % 2 := by decide +kernel
theorem mb_or {m : Nat} (hm : m < 32) {g k : Int} (hg : 0 ≤ g ∧ g < 5) (hk : 0 ≤ k ∧ k < 5) : mb (m ||| 2 ^ g.toNat) k = if k = g then true else mb m k := by
  unfold mb
  rw [mb_d m hm g.toNat (by omega) k.toNat (by omega)]
  by_cases c : k = g
  · rw [if_pos c, if_pos (by omega)]; rfl
  · rw [if_neg c, if_neg (by omega)]
theorem mb_lt {m : Nat} (hm : m < 32) {g : Int} (hg : 0 ≤ g ∧ g < 5) : m ||| 2 ^ g.toNat < 32 := Nat.or_lt_two_pow (n := 5) hm (Nat.pow_lt_pow_right (by decide) (by omega))
theorem mb_bit {m : Nat} (hm : m < 268435456) {k : Int} (hk : 0 ≤ k ∧ k < 28) : (Int32.ofNat m >>> (zI k &&& 31)) &&& (1 : Int32) = zI (if mb m k = true then 1 else 0) := by
  rw [i_bit hm hk, ← zI_n]
  unfold mb
  by_cases c : m / 2 ^ k.toNat % 2 = 1
  · rw [c, if_pos (decide_eq_true rfl)]; rfl
  · rw [if_neg (by rw [decide_eq_true_iff]; exact c), show m / 2 ^ k.toNat % 2 = 0 by omega]; rfl
/-- the first of the best -/
def bN (q : Int → Bool) (f : Int → Int) : Nat → Int
  | 0 => -1
  | n + 1 => if q n = true ∧ (bN q f n = -1 ∨ f (bN q f n) < f n) then n else bN q f n
def bs (q : Int → Bool) (f : Int → Int) (k : Int) : Int := bN q f k.toNat
theorem bs_0 (q : Int → Bool) (f : Int → Int) : bs q f 0 = -1 := rfl
theorem bs_s (q : Int → Bool) (f : Int → Int) {k : Int} (h : 0 ≤ k) : bs q f (k + 1) = if q k = true ∧ (bs q f k = -1 ∨ f (bs q f k) < f k) then k else bs q f k := by
  unfold bs
  rw [show (k + 1).toNat = k.toNat + 1 by omega]
  show (if q (k.toNat : Nat) = true ∧ (bN q f k.toNat = -1 ∨ f (bN q f k.toNat) < f (k.toNat : Nat)) then ((k.toNat : Nat) : Int) else bN q f k.toNat) = _
  rw [show ((k.toNat : Nat) : Int) = k by omega]
theorem bs_max (q : Int → Bool) (f : Int → Int) {n : Int} (hn : 0 ≤ n) : (bs q f n = -1 ∧ ∀ i, 0 ≤ i → i < n → q i = false) ∨ (0 ≤ bs q f n ∧ bs q f n < n ∧ q (bs q f n) = true ∧ (∀ i, 0 ≤ i → i < bs q f n → q i = true → f i < f (bs q f n)) ∧ ∀ i, bs q f n < i → i < n → q i = true → f i ≤ f (bs q f n)) := by
  refine sm_ind (P := fun n => (bs q f n = -1 ∧ ∀ i, 0 ≤ i → i < n → q i = false) ∨ (0 ≤ bs q f n ∧ bs q f n < n ∧ q (bs q f n) = true ∧ (∀ i, 0 ≤ i → i < bs q f n → q i = true → f i < f (bs q f n)) ∧ ∀ i, bs q f n < i → i < n → q i = true → f i ≤ f (bs q f n))) (Or.inl ⟨rfl, fun i h1 h2 => absurd h1 (by omega)⟩) (fun k hk ih => ?_) hn
  rw [bs_s q f hk]
  rcases ih with ⟨h1, h2⟩ | ⟨h1, h2, h3, h4, h5⟩
  · by_cases c : q k = true
    · rw [if_pos ⟨c, Or.inl h1⟩]
      refine Or.inr ⟨hk, by omega, c, fun i i1 i2 i3 => ?_, fun i i1 i2 => absurd i1 (by omega)⟩
      rw [h2 i i1 i2] at i3
      exact absurd i3 (by decide)
    · rw [if_neg (fun x => c x.1)]
      refine Or.inl ⟨h1, fun i i1 i2 => ?_⟩
      by_cases e : i = k
      · rw [e]; exact Bool.eq_false_iff.2 c
      · exact h2 i i1 (by omega)
  · by_cases c : q k = true ∧ (bs q f k = -1 ∨ f (bs q f k) < f k)
    · rw [if_pos c]
      have c2 : f (bs q f k) < f k := c.2.resolve_left (by omega)
      refine Or.inr ⟨hk, by omega, c.1, fun i i1 i2 i3 => ?_, fun i i1 i2 => absurd i1 (by omega)⟩
      by_cases e : i = bs q f k
      · rw [e]; exact c2
      · by_cases e2 : i < bs q f k
        · have := h4 i i1 e2 i3; omega
        · have := h5 i (by omega) i2 i3; omega
    · rw [if_neg c]
      refine Or.inr ⟨h1, by omega, h3, h4, fun i i1 i2 i3 => ?_⟩
      by_cases e : i = k
      · rw [e] at i3 ⊢
        have : ¬ f (bs q f k) < f k := fun x => c ⟨i3, Or.inr x⟩
        omega
      · exact h5 i i1 (by omega) i3
theorem bs_char {q : Int → Bool} {f : Int → Int} {n g : Int} (hg : 0 ≤ g ∧ g < n) (hq : q g = true) (h1 : ∀ i, 0 ≤ i → i < g → q i = true → f i < f g) (h2 : ∀ i, g < i → i < n → q i = true → f i ≤ f g) : bs q f n = g := by
  rcases bs_max q f (n := n) (by omega) with ⟨_, b2⟩ | ⟨b1, b2, b3, b4, b5⟩
  · rw [b2 g hg.1 hg.2] at hq
    exact absurd hq (by decide)
  · by_cases c : bs q f n < g
    · have := h1 _ b1 c b3
      have := b5 g c hg.2 hq
      omega
    · by_cases c2 : g < bs q f n
      · have := h2 _ c2 b2 b3
        have := b4 g hg.1 c2 hq
        omega
      · omega
theorem bs_cong {q p : Int → Bool} {f g : Int → Int} {n : Int} (hn : 0 ≤ n) (h : ∀ i, 0 ≤ i → i < n → q i = p i) (hf : ∀ i, 0 ≤ i → i < n → q i = true → f i = g i) : bs q f n = bs p g n := by
  rcases bs_max p g hn with ⟨b1, b2⟩ | ⟨b1, b2, b3, b4, b5⟩
  · rcases bs_max q f hn with ⟨c1, _⟩ | ⟨c1, c2, c3, _, _⟩
    · rw [b1, c1]
    · rw [h _ c1 c2, b2 _ c1 c2] at c3
      exact absurd c3 (by decide)
  · have e := hf _ b1 b2 (by rw [h _ b1 b2]; exact b3)
    refine bs_char ⟨b1, b2⟩ (by rw [h _ b1 b2]; exact b3) (fun i i1 i2 i3 => ?_) (fun i i1 i2 i3 => ?_)
    · rw [e, hf i i1 (by omega) i3]
      exact b4 i i1 i2 (by rw [← h i i1 (by omega)]; exact i3)
    · rw [e, hf i (by omega) i2 i3]
      exact b5 i i1 i2 (by rw [← h i (by omega) i2]; exact i3)
theorem bs_sub {q p : Int → Bool} {f : Int → Int} {n : Int} (hn : 0 ≤ n) (h : ∀ i, 0 ≤ i → i < n → p i = true → q i = true) (h1 : bs q f n ≠ -1) (h2 : p (bs q f n) = true) : bs p f n = bs q f n := by
  rcases bs_max q f hn with ⟨b1, _⟩ | ⟨b1, b2, b3, b4, b5⟩
  · exact absurd b1 h1
  · exact bs_char ⟨b1, b2⟩ h2 (fun i i1 i2 i3 => b4 i i1 i2 (h i i1 (by omega) i3)) (fun i i1 i2 i3 => b5 i i1 i2 (h i (by omega) i2 i3))
theorem bs_no {q : Int → Bool} {f : Int → Int} {n : Int} (hn : 0 ≤ n) (h : ∀ i, 0 ≤ i → i < n → q i = false) : bs q f n = -1 := by
  rcases bs_max q f hn with ⟨b1, _⟩ | ⟨b1, b2, b3, _, _⟩
  · exact b1
  · rw [h _ b1 b2] at b3
    exact absurd b3 (by decide)
theorem bs_rng (q : Int → Bool) (f : Int → Int) {n : Int} (hn : 0 ≤ n) : -1 ≤ bs q f n ∧ bs q f n < n := by
  rcases bs_max q f hn with ⟨b1, _⟩ | ⟨b1, b2, _, _, _⟩ <;> omega
section F0
variable {a : Nat → Int} {σ : Mem}
def fgt (a : Nat → Int) (m : Nat) : Int := bs (fun k => !mb m k) (fun k => a (4 + k.toNat)) (a 0)
def fgu (key : Int → Int) (s : Int) (a : Nat → Int) (g : Int) : Int := bs (fun u => decide (rsn a g s u = 0)) (fun u => - key u) (a 1)
theorem q_mostNeedingGate {K : Int32 → Mem → Prop} (hR : RC a (σ 2)) (hW : WF a) {m : Nat} (hm : m < 32) (h : K (zI (fgt a m)) σ) : wp_X2_mostNeedingGate (Int32.ofNat m) σ K := by
  have hc := hW.c
  unfold wp_X2_mostNeedingGate
  have h9 := lpI (F := wpF_X2_mostNeedingGate_4 K) (fun i => (Int32.ofNat m, zI (bs (fun k => !mb m k) (fun k => a (4 + k.toNat)) i), zI i, σ)) (fun i => 0 ≤ i) (a 0) (fun B hP => ?_) (fun i B hi hP hB => ?_) 0 (by omega) (by decide)
  · exact h9
  · show wpS_X2_mostNeedingGate_4 K B (Int32.ofNat m) (zI (fgt a m)) (zI (a 0)) σ
    unfold wpS_X2_mostNeedingGate_4
    exact q_gates hR (br_le (by omega) (by omega) (fun _ => h) (fun c => absurd c (by omega)))
  · show wpS_X2_mostNeedingGate_4 K B (Int32.ofNat m) (zI (bs (fun k => !mb m k) (fun k => a (4 + k.toNat)) i)) (zI i) σ
    have hb := bs_rng (fun k => !mb m k) (fun k => a (4 + k.toNat)) hP
    have hB2 := hB (by omega)
    rw [bs_s _ _ hP] at hB2
    have hn := hW.2.2.2.2.1 i.toNat (by omega)
    unfold wpS_X2_mostNeedingGate_4 wpJ_X2_mostNeedingGate_25 wpJ_X2_mostNeedingGate_50 wpJ_X2_mostNeedingGate_52
    refine q_gates hR (br_le (by omega) (by omega) (fun c => absurd c (by omega)) (fun _ => ?_))
    rw [mb_bit (by omega) (by omega)]
    refine br_n0 (by split <;> omega) (fun c => one_ne ?_) (fun c => zero_eq (fun v6 e6 => ?_))
    · have c2 : mb m i = false := by
        cases h3 : mb m i with
        | false => rfl
        | true => rw [h3, if_pos rfl] at c; exact absurd c (by decide)
      refine br_m1 (by omega) (fun c3 v6 e6 => ?_) (fun c3 => ?_)
      · rw [zl_1, zI_add] at e6
        subst e6
        rw [if_pos ⟨by rw [c2]; rfl, Or.inl c3⟩] at hB2
        exact hB2
      · have hn2 := hW.2.2.2.2.1 (bs (fun k => !mb m k) (fun k => a (4 + k.toNat)) i).toNat (by omega)
        refine q_rankNeededAt hR hW hP hi (q_rankNeededAt hR hW (by omega) (by omega) ?_)
        refine br_le (by omega) (by omega) (fun c4 v6 e6 => ?_) (fun c4 v6 e6 => ?_)
        · rw [zl_1, zI_add] at e6
          subst e6
          rw [if_neg (fun x => x.2.elim c3 (by omega))] at hB2
          exact hB2
        · rw [zl_1, zI_add] at e6
          subst e6
          rw [if_pos ⟨by rw [c2]; rfl, Or.inr c4⟩] at hB2
          exact hB2
    · have c2 : mb m i = true := by
        cases h3 : mb m i with
        | true => rfl
        | false => rw [h3, if_neg (by decide)] at c; exact absurd rfl c
      rw [zl_1, zI_add] at e6
      subst e6
      rw [if_neg (fun x => by rw [c2] at x; exact absurd x.1 (by decide))] at hB2
      exact hB2
theorem q_firstGuardFor {K : Int32 → Mem → Prop} (hR : RC a (σ 2)) (hW : WF a) {key : Int → Int} (hK : ∀ j : Nat, j < 10 → σ 3 j = zI (key j)) (hk : ∀ u, 0 ≤ u → u < 10 → 0 ≤ key u ∧ key u < 15000) {g s : Int} (hg : 0 ≤ g ∧ g < a 0) (hs : 0 ≤ s ∧ s < 28) (h : K (zI (fgu key s a g)) σ) : wp_X2_firstGuardFor (zI g) (zI s) σ K := by
  have hc := hW.c
  unfold wp_X2_firstGuardFor
  have h9 := lpI (F := wpF_X2_firstGuardFor_5 K) (fun i => (zI g, zI s, zI (bs (fun u => decide (rsn a g s u = 0)) (fun u => - key u) i), zI i, σ)) (fun i => 0 ≤ i) (a 1) (fun B hP => ?_) (fun i B hi hP hB => ?_) 0 (by omega) (by decide)
  · exact h9
  · show wpS_X2_firstGuardFor_5 K B (zI g) (zI s) (zI (fgu key s a g)) (zI (a 1)) σ
    unfold wpS_X2_firstGuardFor_5
    rw [zl_10]
    exact br_le (by omega) (by omega) (fun _ => h) (fun _ => q_guards hR (br_le (by omega) (by omega) (fun _ => h) (fun c => absurd c (by omega))))
  · show wpS_X2_firstGuardFor_5 K B (zI g) (zI s) (zI (bs (fun u => decide (rsn a g s u = 0)) (fun u => - key u) i)) (zI i) σ
    have hb := bs_rng (fun u => decide (rsn a g s u = 0)) (fun u => - key u) hP
    have hB2 := hB (by omega)
    rw [bs_s _ _ hP] at hB2
    have hr := rsn_rng a g s i
    have k1 := hk i hP (by omega)
    have hY : (bs (fun u => decide (rsn a g s u = 0)) (fun u => - key u) i = -1 ∨ - key (bs (fun u => decide (rsn a g s u = 0)) (fun u => - key u) i) < - key i) → wpJ_X2_firstGuardFor_47 K B (zI g) (zI s) (zI (bs (fun u => decide (rsn a g s u = 0)) (fun u => - key u) i)) (zI i) 1 σ := by
      intro hor
      unfold wpJ_X2_firstGuardFor_47 wpJ_X2_firstGuardFor_68
      refine one_ne (q_reasonAgainst hR hW hg hs ⟨hP, hi⟩ ?_)
      refine br_n0 (by omega) (fun c v7 e7 => ?_) (fun c v7 e7 => ?_)
      · rw [zl_1, zI_add] at e7
        subst e7
        rw [if_pos ⟨decide_eq_true c, hor⟩] at hB2
        exact hB2
      · rw [zl_1, zI_add] at e7
        subst e7
        rw [if_neg (fun x => c (of_decide_eq_true x.1))] at hB2
        exact hB2
    unfold wpS_X2_firstGuardFor_5 wpJ_X2_firstGuardFor_42
    rw [zl_10]
    refine br_le (by omega) (by omega) (fun c => absurd c (by omega)) (fun _ => q_guards hR (br_le (by omega) (by omega) (fun c => absurd c (by omega)) (fun _ => ?_)))
    refine br_m1 (by omega) (fun c => hY (Or.inl c)) (fun c => ?_)
    have k2 := hk (bs (fun u => decide (rsn a g s u = 0)) (fun u => - key u) i) (by omega) (by omega)
    rw [zI_nat (by omega) (by omega), zI_nat (by omega) (by omega), hK _ (by omega), hK _ (by omega), show ((i.toNat : Nat) : Int) = i by omega, show (((bs (fun u => decide (rsn a g s u = 0)) (fun u => - key u) i).toNat : Nat) : Int) = bs (fun u => decide (rsn a g s u = 0)) (fun u => - key u) i by omega]
    refine ⟨zI_in (by omega) (by omega) (by decide), zI_in (by omega) (by omega) (by decide), br_le (by omega) (by omega) (fun c2 => ?_) (fun c2 => hY (Or.inr (by omega)))⟩
    unfold wpJ_X2_firstGuardFor_47 wpJ_X2_firstGuardFor_68
    refine zero_eq (fun v7 e7 => ?_)
    rw [zl_1, zI_add] at e7
    subst e7
    rw [if_neg (fun x => x.2.elim c (fun y => by omega))] at hB2
    exact hB2
end F0
