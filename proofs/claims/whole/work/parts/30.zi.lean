/-! whole numbers as ints of 32 bits -/
def zI (i : Int) : Int32 := Int32.ofInt i
theorem zI_add (a b : Int) : zI a + zI b = zI (a + b) := (Int32.ofInt_add a b).symm
theorem zI_sub (a b : Int) : zI a - zI b = zI (a - b) := (Int32.ofInt_sub a b).symm
theorem zI_mul (a b : Int) : zI a * zI b = zI (a * b) := (Int32.ofInt_mul a b).symm
theorem zI_int {a : Int} (h1 : -2147483648 ≤ a) (h2 : a < 2147483648) : (zI a).toInt = a := Int32.toInt_ofInt_of_le (by omega) (by omega)
theorem zI_of (x : Int32) : zI x.toInt = x := Int32.ofInt_toInt x
theorem zI_rng (x : Int32) : -2147483648 ≤ x.toInt ∧ x.toInt < 2147483648 := by
  have h1 := Int32.le_toInt x
  have h2 := Int32.toInt_lt x
  omega
theorem zI_ex (x : Int32) : ∃ i : Int, x = zI i ∧ -2147483648 ≤ i ∧ i < 2147483648 := ⟨x.toInt, (zI_of x).symm, zI_rng x⟩
theorem zI_lt {a b : Int} (h1 : -2147483648 ≤ a) (h2 : a < 2147483648) (h3 : -2147483648 ≤ b) (h4 : b < 2147483648) : (zI a < zI b) ↔ a < b := by
  rw [Int32.lt_iff_toInt_lt, zI_int h1 h2, zI_int h3 h4]
theorem zI_le {a b : Int} (h1 : -2147483648 ≤ a) (h2 : a < 2147483648) (h3 : -2147483648 ≤ b) (h4 : b < 2147483648) : (zI a ≤ zI b) ↔ a ≤ b := by
  rw [Int32.le_iff_toInt_le, zI_int h1 h2, zI_int h3 h4]
theorem zI_eq {a b : Int} (h1 : -2147483648 ≤ a) (h2 : a < 2147483648) (h3 : -2147483648 ≤ b) (h4 : b < 2147483648) : (zI a = zI b) ↔ a = b := by
  constructor
  · intro h
    have := congrArg Int32.toInt h
    rwa [zI_int h1 h2, zI_int h3 h4] at this
  · intro h
    rw [h]
theorem zI_nat {a : Int} (h1 : 0 ≤ a) (h2 : a < 2147483648) : (zI a).toNatClampNeg = a.toNat := Int32.toNatClampNeg_ofInt_of_le (by omega) (by omega)
theorem zI_in {a : Int} {n : Nat} (h1 : 0 ≤ a) (h2 : a < n) (hn : (n : Int) ≤ 2147483648) : vp_in (zI a) n := by
  rw [vp_in_iff, zI_int (by omega) (by omega)]
  omega
theorem zl_0 : (0 : Int32) = zI 0 := by decide +kernel
theorem zl_1 : (1 : Int32) = zI 1 := by decide +kernel
theorem zl_2 : (2 : Int32) = zI 2 := by decide +kernel
theorem zl_3 : (3 : Int32) = zI 3 := by decide +kernel
theorem zl_4 : (4 : Int32) = zI 4 := by decide +kernel
theorem zl_5 : (5 : Int32) = zI 5 := by decide +kernel
theorem zl_6 : (6 : Int32) = zI 6 := by decide +kernel
theorem zl_7 : (7 : Int32) = zI 7 := by decide +kernel
theorem zl_8 : (8 : Int32) = zI 8 := by decide +kernel
theorem zl_9 : (9 : Int32) = zI 9 := by decide +kernel
theorem zl_10 : (10 : Int32) = zI 10 := by decide +kernel
theorem zl_19 : (19 : Int32) = zI 19 := by decide +kernel
theorem zl_20 : (20 : Int32) = zI 20 := by decide +kernel
theorem zl_27 : (27 : Int32) = zI 27 := by decide +kernel
theorem zl_28 : (28 : Int32) = zI 28 := by decide +kernel
theorem zl_29 : (29 : Int32) = zI 29 := by decide +kernel
theorem zl_30 : (30 : Int32) = zI 30 := by decide +kernel
theorem zl_31 : (31 : Int32) = zI 31 := by decide +kernel
theorem zl_32 : (32 : Int32) = zI 32 := by decide +kernel
theorem zl_35 : (35 : Int32) = zI 35 := by decide +kernel
theorem zl_37 : (37 : Int32) = zI 37 := by decide +kernel
theorem zl_39 : (39 : Int32) = zI 39 := by decide +kernel
theorem zl_45 : (45 : Int32) = zI 45 := by decide +kernel
theorem zl_46 : (46 : Int32) = zI 46 := by decide +kernel
theorem zl_48 : (48 : Int32) = zI 48 := by decide +kernel
theorem zl_50 : (50 : Int32) = zI 50 := by decide +kernel
theorem zl_57 : (57 : Int32) = zI 57 := by decide +kernel
theorem zl_58 : (58 : Int32) = zI 58 := by decide +kernel
theorem zl_59 : (59 : Int32) = zI 59 := by decide +kernel
theorem zl_60 : (60 : Int32) = zI 60 := by decide +kernel
theorem zl_64 : (64 : Int32) = zI 64 := by decide +kernel
theorem zl_99 : (99 : Int32) = zI 99 := by decide +kernel
theorem zl_100 : (100 : Int32) = zI 100 := by decide +kernel
theorem zl_110 : (110 : Int32) = zI 110 := by decide +kernel
theorem zl_140 : (140 : Int32) = zI 140 := by decide +kernel
theorem zl_179 : (179 : Int32) = zI 179 := by decide +kernel
theorem zl_1253 : (1253 : Int32) = zI 1253 := by decide +kernel
theorem zl_m1 : (-1 : Int32) = zI (-1) := by decide +kernel

theorem lpI {S : Type} {F : (S → Prop) → S → Prop} (st : Int → S) (P : Int → Prop) (e : Int) (fin : ∀ B, P e → F B (st e)) (step : ∀ (k : Int) (B : S → Prop), k < e → P k → (P (k + 1) → B (st (k + 1))) → F B (st k)) (i : Int) (hi : i ≤ e) (h0 : P i) : ∃ n, wlp F n (st i) := by
  have key : ∀ (d : Nat) (i : Int), i + d = e → P i → wlp F (d + 1) (st i) := by
    intro d
    induction d with
    | zero =>
      intro i h hP
      have : i = e := by omega
      subst this
      exact fin _ hP
    | succ d ih =>
      intro i h hP
      exact step i _ (by omega) hP (fun hP' => ih (i + 1) (by omega) hP')
  exact ⟨(e - i).toNat + 1, key _ i (by omega) h0⟩
/-! counts and first places -/
def cN (p : Int → Bool) : Nat → Int
  | 0 => 0
  | n + 1 => cN p n + (if p n then 1 else 0)
def cn (p : Int → Bool) (k : Int) : Int := cN p k.toNat
theorem cn_0 (p : Int → Bool) : cn p 0 = 0 := rfl
theorem cn_s (p : Int → Bool) {k : Int} (h : 0 ≤ k) : cn p (k + 1) = cn p k + (if p k then 1 else 0) := by
  obtain ⟨n, rfl⟩ := Int.eq_ofNat_of_zero_le h
  rfl
theorem cn_t (p : Int → Bool) {k : Int} (h : 0 ≤ k) (hp : p k = true) : cn p (k + 1) = cn p k + 1 := by rw [cn_s p h, if_pos hp]
theorem cn_f (p : Int → Bool) {k : Int} (h : 0 ≤ k) (hp : p k = false) : cn p (k + 1) = cn p k := by rw [cn_s p h, hp]; simp
theorem cN_rng (p : Int → Bool) : ∀ n : Nat, 0 ≤ cN p n ∧ cN p n ≤ n
  | 0 => ⟨Int.le_refl _, Int.le_refl _⟩
  | n + 1 => by
    have := cN_rng p n
    unfold cN
    split <;> omega
theorem cn_rng (p : Int → Bool) {k : Int} (h : 0 ≤ k) : 0 ≤ cn p k ∧ cn p k ≤ k := by
  have := cN_rng p k.toNat
  unfold cn
  omega
theorem cn_ext {p q : Int → Bool} : ∀ (n : Nat), (∀ k : Int, 0 ≤ k → k < n → p k = q k) → cN p n = cN q n
  | 0, _ => rfl
  | n + 1, h => by
    unfold cN
    rw [cn_ext n (fun k h1 h2 => h k h1 (by omega)), h n (by omega) (by omega)]
theorem cn_cong {p q : Int → Bool} {n : Int} (h : ∀ k : Int, 0 ≤ k → k < n → p k = q k) : cn p n = cn q n := cn_ext n.toNat (fun k h1 h2 => h k h1 (by omega))
theorem cn_cut {p : Int → Bool} {m n : Int} (h0 : 0 ≤ m) (h : m ≤ n) (hp : ∀ k : Int, m ≤ k → k < n → p k = false) : cn p n = cn p m := by
  have key : ∀ (d : Nat), m + d ≤ n → cn p (m + d) = cn p m := by
    intro d
    induction d with
    | zero => intro _; rw [show m + ((0 : Nat) : Int) = m by omega]
    | succ d ih =>
      intro hd
      rw [show m + ((d + 1 : Nat) : Int) = (m + d) + 1 by omega, cn_f p (by omega) (hp _ (by omega) (by omega))]
      exact ih (by omega)
  have := key (n - m).toNat (by omega)
  rwa [show m + ((n - m).toNat : Int) = n by omega] at this
def fN (p : Int → Bool) : Nat → Int
  | 0 => -1
  | n + 1 => if fN p n = -1 then (if p n then n else -1) else fN p n
def fs (p : Int → Bool) (k : Int) : Int := fN p k.toNat
theorem fs_0 (p : Int → Bool) : fs p 0 = -1 := rfl
theorem fs_s (p : Int → Bool) {k : Int} (h : 0 ≤ k) : fs p (k + 1) = if fs p k = -1 then (if p k then k else -1) else fs p k := by
  obtain ⟨n, rfl⟩ := Int.eq_ofNat_of_zero_le h
  rfl
theorem fN_rng (p : Int → Bool) : ∀ n : Nat, -1 ≤ fN p n ∧ (fN p n < n)
  | 0 => ⟨Int.le_refl _, by unfold fN; omega⟩
  | n + 1 => by
    have := fN_rng p n
    unfold fN
    split
    · split <;> omega
    · omega
theorem fs_rng (p : Int → Bool) {k : Int} (h : 0 ≤ k) : -1 ≤ fs p k ∧ fs p k < k := by
  have := fN_rng p k.toNat
  unfold fs
  constructor
  · exact this.1
  · omega
theorem fs_no (p : Int → Bool) {k : Int} (h : 0 ≤ k) (h1 : fs p k = -1) (hp : p k = false) : fs p (k + 1) = -1 := by rw [fs_s p h, if_pos h1, hp]; rfl
theorem fs_yes (p : Int → Bool) {k : Int} (h : 0 ≤ k) (h1 : fs p k = -1) (hp : p k = true) : fs p (k + 1) = k := by rw [fs_s p h, if_pos h1, if_pos hp]
theorem fs_stay (p : Int → Bool) {k m : Int} (h : 0 ≤ k) (hk : k ≤ m) (h1 : fs p k ≠ -1) : fs p m = fs p k := by
  have key : ∀ (d : Nat), fs p (k + d) = fs p k := by
    intro d
    induction d with
    | zero => rw [show k + ((0 : Nat) : Int) = k by omega]
    | succ d ih =>
      rw [show k + ((d + 1 : Nat) : Int) = (k + d) + 1 by omega, fs_s p (by omega), ih, if_neg h1]
  have := key (m - k).toNat
  rwa [show k + ((m - k).toNat : Int) = m by omega] at this
theorem fs_found (p : Int → Bool) {k m : Int} (h : 0 ≤ k) (hk : k < m) (h1 : fs p k = -1) (hp : p k = true) : fs p m = k := by
  have h2 := fs_yes p h h1 hp
  rw [← h2]
  exact fs_stay p (by omega) (by omega) (by omega)
theorem fs_cong {p q : Int → Bool} {n : Int} (h : ∀ k : Int, 0 ≤ k → k < n → p k = q k) : fs p n = fs q n := by
  have key : ∀ d : Nat, (d : Int) ≤ n → fN p d = fN q d := by
    intro d
    induction d with
    | zero => intro _; rfl
    | succ d ih =>
      intro hd
      unfold fN
      rw [ih (by omega), h d (by omega) (by omega)]
  by_cases hn : 0 ≤ n
  · exact key n.toNat (by omega)
  · unfold fs
    rw [show n.toNat = 0 by omega]
    rfl
theorem fs_cut {p : Int → Bool} {m n : Int} (h0 : 0 ≤ m) (h : m ≤ n) (hp : ∀ k : Int, m ≤ k → k < n → p k = false) : fs p n = fs p m := by
  by_cases h1 : fs p m = -1
  · have key : ∀ (d : Nat), m + d ≤ n → fs p (m + d) = -1 := by
      intro d
      induction d with
      | zero => intro _; rw [show m + ((0 : Nat) : Int) = m by omega]; exact h1
      | succ d ih =>
        intro hd
        rw [show m + ((d + 1 : Nat) : Int) = (m + d) + 1 by omega]
        exact fs_no p (by omega) (ih (by omega)) (hp _ (by omega) (by omega))
    have := key (n - m).toNat (by omega)
    rw [show m + ((n - m).toNat : Int) = n by omega] at this
    rw [this, h1]
  · exact fs_stay p h0 h h1
theorem fs_is (p : Int → Bool) {n : Int} (h0 : 0 ≤ n) (h : fs p n ≠ -1) : 0 ≤ fs p n ∧ fs p n < n ∧ p (fs p n) = true := by
  have key : ∀ d : Nat, fN p d ≠ -1 → p (fN p d) = true := by
    intro d
    induction d with
    | zero => intro h; exact absurd rfl h
    | succ d ih =>
      intro h
      unfold fN at h ⊢
      by_cases h1 : fN p d = -1
      · rw [if_pos h1] at h ⊢
        by_cases h2 : p d = true
        · rw [if_pos h2]; exact h2
        · rw [if_neg h2] at h; exact absurd rfl h
      · rw [if_neg h1] at h ⊢
        exact ih h
  have h2 := fs_rng p h0
  exact ⟨by omega, h2.2, key _ h⟩
theorem fs_none (p : Int → Bool) {n : Int} (h : fs p n = -1) : ∀ k : Int, 0 ≤ k → k < n → p k = false := by
  intro k h1 h2
  cases hp : p k with
  | false => rfl
  | true =>
    exfalso
    by_cases h3 : fs p k = -1
    · have := fs_found p h1 h2 h3 hp
      omega
    · have := fs_stay p h1 (Int.le_of_lt h2) h3
      omega
/-! the roster's picture: gates, guards, rations, now, needed ranks, ranks, faints, leave, duties (a guard or -1) -/
def du (a : Nat → Int) (k s : Int) : Int := a (39 + k * 28 + s).toNat
def RC (a : Nat → Int) (c : Nat → Int32) : Prop := (∀ j, j < 39 → c j = zI (a j)) ∧ ∀ j, 39 ≤ j → j < 179 → c j = zI (a j + 1)
def RG (a : Nat → Int) (g : Nat → Int32) : Prop := g 0 = zI (a 0) ∧ g 1 = zI (a 1) ∧ g 2 = zI (a 3) ∧ g 3 = zI (a 2) ∧ (∀ k, k < 5 → g (4 + k) = zI (a (4 + k))) ∧ (∀ k, k < 10 → g (9 + 2 * k) = zI (a (9 + k)) ∧ g (10 + 2 * k) = zI (a (19 + k)) ∧ g (29 + k) = zI (a (29 + k))) ∧ ∀ j, 39 ≤ j → j < 179 → g j = zI (a j)
def WF (a : Nat → Int) : Prop := (0 ≤ a 0 ∧ a 0 ≤ 5) ∧ (0 ≤ a 1 ∧ a 1 ≤ 10) ∧ (0 ≤ a 2 ∧ a 2 ≤ 99) ∧ (0 ≤ a 3 ∧ a 3 ≤ 28) ∧ (∀ k, k < 5 → 0 ≤ a (4 + k) ∧ a (4 + k) ≤ 9) ∧ (∀ k, k < 10 → 0 ≤ a (9 + k) ∧ a (9 + k) ≤ 9) ∧ (∀ k, k < 10 → 0 ≤ a (29 + k) ∧ a (29 + k) < 268435456) ∧ (∀ j, 39 ≤ j → j < 179 → -1 ≤ a j ∧ a j < a 1) ∧ ∀ j : Nat, 39 + a 0 * 28 ≤ j → j < 179 → a j = -1
theorem RC.dq {a : Nat → Int} {c : Nat → Int32} (h : RC a c) {k s : Int} (hk : 0 ≤ k ∧ k < 5) (hs : 0 ≤ s ∧ s < 28) : c (39 + k * 28 + s).toNat = zI (du a k s + 1) := h.2 _ (by omega) (by omega)
theorem RG.dq {a : Nat → Int} {g : Nat → Int32} (h : RG a g) {k s : Int} (hk : 0 ≤ k ∧ k < 5) (hs : 0 ≤ s ∧ s < 28) : g (39 + k * 28 + s).toNat = zI (du a k s) := h.2.2.2.2.2.2 _ (by omega) (by omega)
theorem WF.dq {a : Nat → Int} (h : WF a) {k s : Int} (hk : 0 ≤ k ∧ k < 5) (hs : 0 ≤ s ∧ s < 28) : -1 ≤ du a k s ∧ du a k s < a 1 := h.2.2.2.2.2.2.2.1 _ (by omega) (by omega)
theorem WF.out {a : Nat → Int} (h : WF a) {k s : Int} (hk : a 0 ≤ k ∧ k < 5) (hs : 0 ≤ s ∧ s < 28) : du a k s = -1 := by
  have h0 := h.1
  exact h.2.2.2.2.2.2.2.2 _ (by omega) (by omega)
theorem WF.c {a : Nat → Int} (h : WF a) : (0 ≤ a 0 ∧ a 0 ≤ 5) ∧ (0 ≤ a 1 ∧ a 1 ≤ 10) ∧ (0 ≤ a 2 ∧ a 2 ≤ 99) ∧ (0 ≤ a 3 ∧ a 3 ≤ 28) := ⟨h.1, h.2.1, h.2.2.1, h.2.2.2.1⟩
