/-! bits -/
theorem zI_n (n : Nat) : zI (n : Int) = Int32.ofNat n := by
  apply Int32.toBitVec_inj.1
  simp [zI, Int32.ofInt, Int32.ofNat]
theorem i_and (n m : Nat) : Int32.ofNat n &&& Int32.ofNat m = Int32.ofNat (n &&& m) := by
  apply Int32.toBitVec_inj.1
  rw [Int32.toBitVec_and]
  apply BitVec.eq_of_toNat_eq
  simp [Int32.toBitVec_ofNat', Nat.and_mod_two_pow]
theorem i_or (n m : Nat) : Int32.ofNat n ||| Int32.ofNat m = Int32.ofNat (n ||| m) := by
  apply Int32.toBitVec_inj.1
  rw [Int32.toBitVec_or]
  apply BitVec.eq_of_toNat_eq
  simp [Int32.toBitVec_ofNat', Nat.or_mod_two_pow]
theorem i_add (n m : Nat) : Int32.ofNat n + Int32.ofNat m = Int32.ofNat (n + m) := (Int32.ofNat_add n m).symm
theorem i_sub {n m : Nat} (h : m ≤ n) : Int32.ofNat n - Int32.ofNat m = Int32.ofNat (n - m) := by
  have e : n = (n - m) + m := by omega
  rw [e, ← i_add, Nat.add_sub_cancel]
  exact Int32.add_sub_cancel _ _
theorem i_ush {n : Nat} (h : n < 4294967296) : ((Int32.ofNat n).toUInt32 >>> ((1 : Int32).toUInt32 &&& Int32.toUInt32 31)).toInt32 = Int32.ofNat (n / 2) := by
  apply Int32.toBitVec_inj.1
  apply BitVec.eq_of_toNat_eq
  simp [Int32.toBitVec_ofNat']
  omega
theorem i_ush2 {n : Nat} (h : n < 4294967296) : ((Int32.ofNat n).toUInt32 >>> ((2 : Int32).toUInt32 &&& Int32.toUInt32 31)).toInt32 = Int32.ofNat (n / 4) := by
  apply Int32.toBitVec_inj.1
  apply BitVec.eq_of_toNat_eq
  simp [Int32.toBitVec_ofNat']
  omega
theorem i_ush4 {n : Nat} (h : n < 4294967296) : ((Int32.ofNat n).toUInt32 >>> ((4 : Int32).toUInt32 &&& Int32.toUInt32 31)).toInt32 = Int32.ofNat (n / 16) := by
  apply Int32.toBitVec_inj.1
  apply BitVec.eq_of_toNat_eq
  simp [Int32.toBitVec_ofNat']
  omega
theorem i_ush8 {n : Nat} (h : n < 4294967296) : ((Int32.ofNat n).toUInt32 >>> ((8 : Int32).toUInt32 &&& Int32.toUInt32 31)).toInt32 = Int32.ofNat (n / 256) := by
  apply Int32.toBitVec_inj.1
  apply BitVec.eq_of_toNat_eq
  simp [Int32.toBitVec_ofNat']
  omega
theorem i_ush16 {n : Nat} (h : n < 4294967296) : ((Int32.ofNat n).toUInt32 >>> ((16 : Int32).toUInt32 &&& Int32.toUInt32 31)).toInt32 = Int32.ofNat (n / 65536) := by
  apply Int32.toBitVec_inj.1
  apply BitVec.eq_of_toNat_eq
  simp [Int32.toBitVec_ofNat']
  omega
theorem an_split {h l m q : Nat} (hl : l < 256) (hq : q < 256) : (256 * h + l) &&& (256 * m + q) = 256 * (h &&& m) + (l &&& q) := by
  have hx : (l &&& q) < 2 ^ 8 := Nat.lt_of_le_of_lt Nat.and_le_left hl
  apply Nat.eq_of_testBit_eq
  intro i
  rw [Nat.testBit_and, show 256 = 2 ^ 8 from rfl, Nat.testBit_two_pow_mul_add _ hl, Nat.testBit_two_pow_mul_add _ hq, Nat.testBit_two_pow_mul_add _ hx]
  by_cases c : i < 8
  · simp [c]
  · simp [c]
theorem an_4 {x0 x1 x2 x3 q : Nat} (h0 : x0 < 256) (h1 : x1 < 256) (h2 : x2 < 256) (hq : q < 256) : (256 * (256 * (256 * x3 + x2) + x1) + x0) &&& (256 * (256 * (256 * q + q) + q) + q) = 256 * (256 * (256 * (x3 &&& q) + (x2 &&& q)) + (x1 &&& q)) + (x0 &&& q) := by
  rw [an_split h0 hq, an_split h1 hq, an_split h2 hq]
theorem b8_1 : ∀ x < 256, ∀ b < 2, (x / 2 + 128 * b) &&& 85 = (x / 2) &&& 85 := by decide +kernel
theorem b8_2 : ∀ x < 256, ((x / 2) &&& 85) ≤ x := by decide +kernel
theorem b8_3 : ∀ x < 256, ∀ b < 4, (x / 4 + 64 * b) &&& 51 = (x / 4) &&& 51 := by decide +kernel
def b8c (x : Nat) : Nat := ((x - ((x / 2) &&& 85)) &&& 51) + (((x - ((x / 2) &&& 85)) / 4) &&& 51)
theorem b8_4 : ∀ x < 256, b8c x ≤ 68 ∧ b8c x % 16 ≤ 4 := by decide +kernel
theorem b8_5 : ∀ x < 256, ∀ b < 5, (b8c x + b8c x / 16 + 16 * b) &&& 15 = x % 2 + x / 2 % 2 + x / 4 % 2 + x / 8 % 2 + x / 16 % 2 + x / 32 % 2 + x / 64 % 2 + x / 128 % 2 := by decide +kernel
def pop (n : Nat) : Nat := (((n - ((n / 2) &&& 1431655765)) &&& 858993459) + (((n - ((n / 2) &&& 1431655765)) / 4) &&& 858993459))
def pop3 (n : Nat) : Nat := (pop n + pop n / 16) &&& 252645135
theorem pop_is {x0 x1 x2 x3 : Nat} (h0 : x0 < 256) (h1 : x1 < 256) (h2 : x2 < 256) (h3 : x3 < 256) : pop (256 * (256 * (256 * x3 + x2) + x1) + x0) = 256 * (256 * (256 * b8c x3 + b8c x2) + b8c x1) + b8c x0 := by
  have e1 : (256 * (256 * (256 * x3 + x2) + x1) + x0) / 2 = 256 * (256 * (256 * (x3 / 2) + (x2 / 2 + 128 * (x3 % 2))) + (x1 / 2 + 128 * (x2 % 2))) + (x0 / 2 + 128 * (x1 % 2)) := by omega
  have e2 : ((256 * (256 * (256 * x3 + x2) + x1) + x0) / 2) &&& 1431655765 = 256 * (256 * (256 * ((x3 / 2) &&& 85) + ((x2 / 2) &&& 85)) + ((x1 / 2) &&& 85)) + ((x0 / 2) &&& 85) := by
    rw [e1, show 1431655765 = 256 * (256 * (256 * 85 + 85) + 85) + 85 from rfl, an_4 (by omega) (by omega) (by omega) (by decide), b8_1 _ h0 _ (by omega), b8_1 _ h1 _ (by omega), b8_1 _ h2 _ (by omega)]
  have g0 := b8_2 _ h0
  have g1 := b8_2 _ h1
  have g2 := b8_2 _ h2
  have g3 := b8_2 _ h3
  unfold pop
  rw [e2]
  unfold b8c
  generalize (x0 / 2) &&& 85 = z0 at *
  generalize (x1 / 2) &&& 85 = z1 at *
  generalize (x2 / 2) &&& 85 = z2 at *
  generalize (x3 / 2) &&& 85 = z3 at *
  have e3 : 256 * (256 * (256 * x3 + x2) + x1) + x0 - (256 * (256 * (256 * z3 + z2) + z1) + z0) = 256 * (256 * (256 * (x3 - z3) + (x2 - z2)) + (x1 - z1)) + (x0 - z0) := by omega
  rw [e3]
  have f0 : x0 - z0 < 256 := by omega
  have f1 : x1 - z1 < 256 := by omega
  have f2 : x2 - z2 < 256 := by omega
  have f3 : x3 - z3 < 256 := by omega
  generalize x0 - z0 = y0 at *
  generalize x1 - z1 = y1 at *
  generalize x2 - z2 = y2 at *
  generalize x3 - z3 = y3 at *
  have e4 : (256 * (256 * (256 * y3 + y2) + y1) + y0) / 4 = 256 * (256 * (256 * (y3 / 4) + (y2 / 4 + 64 * (y3 % 4))) + (y1 / 4 + 64 * (y2 % 4))) + (y0 / 4 + 64 * (y1 % 4)) := by omega
  rw [e4, show 858993459 = 256 * (256 * (256 * 51 + 51) + 51) + 51 from rfl, an_4 (by omega) (by omega) (by omega) (by decide), an_4 (by omega) (by omega) (by omega) (by decide), b8_3 _ f0 _ (by omega), b8_3 _ f1 _ (by omega), b8_3 _ f2 _ (by omega)]
  omega
def p8 (x : Nat) : Nat := x % 2 + x / 2 % 2 + x / 4 % 2 + x / 8 % 2 + x / 16 % 2 + x / 32 % 2 + x / 64 % 2 + x / 128 % 2
theorem pop3_is {x0 x1 x2 x3 : Nat} (h0 : x0 < 256) (h1 : x1 < 256) (h2 : x2 < 256) (h3 : x3 < 256) : pop3 (256 * (256 * (256 * x3 + x2) + x1) + x0) = 256 * (256 * (256 * p8 x3 + p8 x2) + p8 x1) + p8 x0 := by
  have c0 := b8_4 _ h0
  have c1 := b8_4 _ h1
  have c2 := b8_4 _ h2
  have c3 := b8_4 _ h3
  have d0 := fun b h => b8_5 x0 h0 b h
  have d1 := fun b h => b8_5 x1 h1 b h
  have d2 := fun b h => b8_5 x2 h2 b h
  have d3 := fun b h => b8_5 x3 h3 b h
  unfold pop3
  rw [pop_is h0 h1 h2 h3]
  change ∀ b < 5, _ = p8 x0 at d0
  change ∀ b < 5, _ = p8 x1 at d1
  change ∀ b < 5, _ = p8 x2 at d2
  change ∀ b < 5, _ = p8 x3 at d3
  generalize b8c x0 = y0 at *
  generalize b8c x1 = y1 at *
  generalize b8c x2 = y2 at *
  generalize b8c x3 = y3 at *
  have e4 : 256 * (256 * (256 * y3 + y2) + y1) + y0 + (256 * (256 * (256 * y3 + y2) + y1) + y0) / 16 = 256 * (256 * (256 * (y3 + y3 / 16 + 16 * 0) + (y2 + y2 / 16 + 16 * (y3 % 16))) + (y1 + y1 / 16 + 16 * (y2 % 16))) + (y0 + y0 / 16 + 16 * (y1 % 16)) := by omega
  rw [e4, show 252645135 = 256 * (256 * (256 * 15 + 15) + 15) + 15 from rfl, an_4 (by omega) (by omega) (by omega) (by decide), d0 _ (by omega), d1 _ (by omega), d2 _ (by omega), d3 _ (by omega)]
def sb (n : Nat) : Nat := n % 2 + n / 2 % 2 + n / 4 % 2 + n / 8 % 2 + n / 16 % 2 + n / 32 % 2 + n / 64 % 2 + n / 128 % 2 + n / 256 % 2 + n / 512 % 2 + n / 1024 % 2 + n / 2048 % 2 + n / 4096 % 2 + n / 8192 % 2 + n / 16384 % 2 + n / 32768 % 2 + n / 65536 % 2 + n / 131072 % 2 + n / 262144 % 2 + n / 524288 % 2 + n / 1048576 % 2 + n / 2097152 % 2 + n / 4194304 % 2 + n / 8388608 % 2 + n / 16777216 % 2 + n / 33554432 % 2 + n / 67108864 % 2 + n / 134217728 % 2
theorem tb_0 (n : Nat) : n % 256 % 2 = n % 2 := by omega
theorem tb_1 (n : Nat) : n % 256 / 2 % 2 = n / 2 % 2 := by omega
theorem tb_2 (n : Nat) : n % 256 / 4 % 2 = n / 4 % 2 := by omega
theorem tb_3 (n : Nat) : n % 256 / 8 % 2 = n / 8 % 2 := by omega
theorem tb_4 (n : Nat) : n % 256 / 16 % 2 = n / 16 % 2 := by omega
theorem tb_5 (n : Nat) : n % 256 / 32 % 2 = n / 32 % 2 := by omega
theorem tb_6 (n : Nat) : n % 256 / 64 % 2 = n / 64 % 2 := by omega
theorem tb_7 (n : Nat) : n % 256 / 128 % 2 = n / 128 % 2 := by omega
theorem tb_8 (n : Nat) : n / 256 % 256 % 2 = n / 256 % 2 := by omega
theorem tb_9 (n : Nat) : n / 256 % 256 / 2 % 2 = n / 512 % 2 := by omega
theorem tb_10 (n : Nat) : n / 256 % 256 / 4 % 2 = n / 1024 % 2 := by omega
theorem tb_11 (n : Nat) : n / 256 % 256 / 8 % 2 = n / 2048 % 2 := by omega
theorem tb_12 (n : Nat) : n / 256 % 256 / 16 % 2 = n / 4096 % 2 := by omega
theorem tb_13 (n : Nat) : n / 256 % 256 / 32 % 2 = n / 8192 % 2 := by omega
theorem tb_14 (n : Nat) : n / 256 % 256 / 64 % 2 = n / 16384 % 2 := by omega
theorem tb_15 (n : Nat) : n / 256 % 256 / 128 % 2 = n / 32768 % 2 := by omega
theorem tb_16 (n : Nat) : n / 65536 % 256 % 2 = n / 65536 % 2 := by omega
theorem tb_17 (n : Nat) : n / 65536 % 256 / 2 % 2 = n / 131072 % 2 := by omega
theorem tb_18 (n : Nat) : n / 65536 % 256 / 4 % 2 = n / 262144 % 2 := by omega
theorem tb_19 (n : Nat) : n / 65536 % 256 / 8 % 2 = n / 524288 % 2 := by omega
theorem tb_20 (n : Nat) : n / 65536 % 256 / 16 % 2 = n / 1048576 % 2 := by omega
theorem tb_21 (n : Nat) : n / 65536 % 256 / 32 % 2 = n / 2097152 % 2 := by omega
theorem tb_22 (n : Nat) : n / 65536 % 256 / 64 % 2 = n / 4194304 % 2 := by omega
theorem tb_23 (n : Nat) : n / 65536 % 256 / 128 % 2 = n / 8388608 % 2 := by omega
theorem tb_25 (n : Nat) (h : n < 268435456) : n / 16777216 / 2 % 2 = n / 33554432 % 2 := by omega
theorem tb_26 (n : Nat) (h : n < 268435456) : n / 16777216 / 4 % 2 = n / 67108864 % 2 := by omega
theorem tb_27 (n : Nat) (h : n < 268435456) : n / 16777216 / 8 % 2 = n / 134217728 % 2 := by omega
theorem tb_28 (n : Nat) (h : n < 268435456) : n / 16777216 / 16 % 2 = 0 := by omega
theorem tb_29 (n : Nat) (h : n < 268435456) : n / 16777216 / 32 % 2 = 0 := by omega
theorem tb_30 (n : Nat) (h : n < 268435456) : n / 16777216 / 64 % 2 = 0 := by omega
theorem tb_31 (n : Nat) (h : n < 268435456) : n / 16777216 / 128 % 2 = 0 := by omega
theorem p8_le (x : Nat) : p8 x ≤ 8 := by unfold p8; omega
theorem pop_all {n : Nat} (h : n < 268435456) : (pop3 n + pop3 n / 256 + (pop3 n + pop3 n / 256) / 65536) &&& 63 = sb n := by
  have hn : n = 256 * (256 * (256 * (n / 16777216) + n / 65536 % 256) + n / 256 % 256) + n % 256 := by omega
  have e := pop3_is (x0 := n % 256) (x1 := n / 256 % 256) (x2 := n / 65536 % 256) (x3 := n / 16777216) (by omega) (by omega) (by omega) (by omega)
  rw [← hn] at e
  rw [e]
  have l0 := p8_le (n % 256)
  have l1 := p8_le (n / 256 % 256)
  have l2 := p8_le (n / 65536 % 256)
  have l3 := p8_le (n / 16777216)
  have hs : sb n = p8 (n % 256) + p8 (n / 256 % 256) + p8 (n / 65536 % 256) + p8 (n / 16777216) := by
    unfold sb p8
    simp only [tb_0 n, tb_1 n, tb_2 n, tb_3 n, tb_4 n, tb_5 n, tb_6 n, tb_7 n, tb_8 n, tb_9 n, tb_10 n, tb_11 n, tb_12 n, tb_13 n, tb_14 n, tb_15 n, tb_16 n, tb_17 n, tb_18 n, tb_19 n, tb_20 n, tb_21 n, tb_22 n, tb_23 n, tb_25 n h, tb_26 n h, tb_27 n h, tb_28 n h, tb_29 n h, tb_30 n h, tb_31 n h, Nat.add_assoc, Nat.add_zero]
  rw [hs]
  generalize p8 (n % 256) = y0 at *
  generalize p8 (n / 256 % 256) = y1 at *
  generalize p8 (n / 65536 % 256) = y2 at *
  generalize p8 (n / 16777216) = y3 at *
  rw [show 63 = 2 ^ 6 - 1 from rfl, Nat.and_two_pow_sub_one_eq_mod]
  clear hn e hs
  rw [show (256 * (256 * (256 * y3 + y2) + y1) + y0) / 256 = 256 * (256 * y3 + y2) + y1 by omega]
  rw [show (256 * (256 * (256 * y3 + y2) + y1) + y0 + (256 * (256 * y3 + y2) + y1)) / 65536 = 256 * y3 + (y2 + y3) by omega]
  omega
theorem q_bitCount {σ : Mem} {K : Int32 → Mem → Prop} {n : Nat} (hn : n < 268435456) (h : K (Int32.ofNat (sb n)) σ) : wp_J6_bitCount_0f7a4 (Int32.ofNat n) σ K := by
  have hb : (n / 2) &&& 1431655765 ≤ n := Nat.le_trans Nat.and_le_left (by omega)
  have hp : pop n < 4294967296 := by
    have h1 : ((n - ((n / 2) &&& 1431655765)) &&& 858993459) ≤ 858993459 := Nat.and_le_right
    have h2 : (((n - ((n / 2) &&& 1431655765)) / 4) &&& 858993459) ≤ 858993459 := Nat.and_le_right
    unfold pop
    omega
  have hp3 : pop3 n ≤ 252645135 := Nat.and_le_right
  intro v1 e1 v2 e2 v3 e3 v4 e4 v5 e5
  have g1 : v1 = Int32.ofNat (n - ((n / 2) &&& 1431655765)) := by
    rw [e1, i_ush (by omega), show (1431655765 : Int32) = Int32.ofNat 1431655765 from rfl, i_and, i_sub hb]
  have g2 : v2 = Int32.ofNat (pop n) := by
    rw [e2, g1, i_ush2 (by omega), show (858993459 : Int32) = Int32.ofNat 858993459 from rfl, i_and, i_and, i_add]
    rfl
  have g3 : v3 = Int32.ofNat (pop3 n) := by
    rw [e3, g2, i_ush4 hp, i_add, show (252645135 : Int32) = Int32.ofNat 252645135 from rfl, i_and]
    rfl
  have g4 : v4 = Int32.ofNat (pop3 n + pop3 n / 256) := by rw [e4, g3, i_ush8 (by omega), i_add]
  have g5 : v5 &&& (63 : Int32) = Int32.ofNat (sb n) := by
    rw [e5, g4, i_ush16 (by omega), i_add, show (63 : Int32) = Int32.ofNat 63 from rfl, i_and, pop_all hn]
  rw [g5]
  exact h
