/-! leaves -/
theorem sh_1 : ∀ s < 28, ((Int32.ofNat s &&& 31).toBitVec.smod 32) = BitVec.ofNat 32 s := by decide +kernel
theorem sh_2 : ∀ s < 28, (1 : Int32) <<< (Int32.ofNat s &&& 31) = Int32.ofNat (2 ^ s) := by decide +kernel
theorem zI_t {s : Int} (h : 0 ≤ s) : zI s = Int32.ofNat s.toNat := by rw [← zI_n, Int.toNat_of_nonneg h]
theorem i_sar {N s : Nat} (hN : N < 268435456) (hs : s < 28) : Int32.ofNat N >>> (Int32.ofNat s &&& 31) = Int32.ofNat (N / 2 ^ s) := by
  apply Int32.toBitVec_inj.1
  rw [Int32.toBitVec_shiftRight, sh_1 s hs, BitVec.sshiftRight_eq', BitVec.sshiftRight_eq_of_msb_false]
  · apply BitVec.eq_of_toNat_eq
    have h1 : N / 2 ^ s ≤ N := Nat.div_le_self _ _
    rw [BitVec.toNat_ushiftRight, BitVec.toNat_ofNat, Int32.toBitVec_ofNat', Int32.toBitVec_ofNat', BitVec.toNat_ofNat, BitVec.toNat_ofNat, Nat.mod_eq_of_lt (show N < 2 ^ 32 by omega), Nat.mod_eq_of_lt (show s < 2 ^ 32 by omega), Nat.mod_eq_of_lt (show N / 2 ^ s < 2 ^ 32 by omega), Nat.shiftRight_eq_div_pow]
  · rw [Int32.toBitVec_ofNat', BitVec.msb_eq_decide, BitVec.toNat_ofNat, Nat.mod_eq_of_lt (by omega)]
    simp
    omega
theorem i_bit {N : Nat} {s : Int} (hN : N < 268435456) (hs : 0 ≤ s ∧ s < 28) : (Int32.ofNat N >>> (zI s &&& 31)) &&& (1 : Int32) = Int32.ofNat (N / 2 ^ s.toNat % 2) := by
  rw [zI_t hs.1, i_sar hN (by omega), show (1 : Int32) = Int32.ofNat 1 from rfl, i_and, Nat.and_one_is_mod]
def sbN (N : Nat) : Nat → Nat
  | 0 => 0
  | k + 1 => sbN N k + N / 2 ^ k % 2
theorem sbN_28 (N : Nat) : sbN N 28 = sb N := by
  simp [sbN, sb]
theorem m_bits {σ : Mem} {K : Int32 → Mem → Prop} {N : Nat} (hN : N < 268435456) (h : K (Int32.ofNat (sb N)) σ) : wp_X5_bits (Int32.ofNat N) σ K := by
  unfold wp_X5_bits
  have h9 := lpI (F := wpF_X5_bits_4 K) (fun i => (Int32.ofNat N, Int32.ofNat (sbN N i.toNat), zI i, σ)) (fun i => 0 ≤ i) 28 (fun B hP => ?_) (fun i B hi hP hB => ?_) 0 (by decide) (by decide)
  · exact h9
  · show wpS_X5_bits_4 K B (Int32.ofNat N) (Int32.ofNat (sbN N 28)) (zI 28) σ
    rw [sbN_28]
    exact ⟨fun _ => h, fun c => absurd (by decide) c⟩
  · show wpS_X5_bits_4 K B (Int32.ofNat N) (Int32.ofNat (sbN N i.toNat)) (zI i) σ
    unfold wpS_X5_bits_4
    rw [zl_28]
    refine br_le (by omega) (by omega) (fun c => absurd c (by omega)) (fun _ v1 e1 v2 e2 => ?_)
    rw [i_bit hN ⟨hP, hi⟩, i_add] at e1
    rw [zl_1, zI_add] at e2
    subst e1; subst e2
    have := hB (by omega)
    rwa [show (i + 1).toNat = i.toNat + 1 by omega] at this
def lv (a : Nat → Int) (u : Int) : Nat := (a (29 + u.toNat)).toNat
section L0
variable {a : Nat → Int} {σ : Mem}
theorem lvb (hW : WF a) {u : Int} (hu : 0 ≤ u ∧ u < 10) : lv a u < 268435456 ∧ (a (29 + u.toNat)) = (lv a u : Int) := by
  have := hW.2.2.2.2.2.2.1 u.toNat (by omega)
  unfold lv
  omega
theorem RC.lvq {c : Nat → Int32} (hR : RC a c) (hW : WF a) {u : Int} (hu : 0 ≤ u ∧ u < 10) : c (29 + u.toNat) = Int32.ofNat (lv a u) := by
  rw [hR.1 _ (by omega), (lvb hW hu).2, zI_n]
theorem RG.lvq {c : Nat → Int32} (hG : RG a c) (hW : WF a) {u : Int} (hu : 0 ≤ u ∧ u < 10) : c (29 + u.toNat) = Int32.ofNat (lv a u) := by
  rw [(hG.2.2.2.2.2.1 _ (by omega)).2.2, (lvb hW hu).2, zI_n]
theorem q_leaveTotal {K : Int32 → Mem → Prop} {u : Int} (hi : ∀ K' : Int32 → Mem → Prop, K' 1 σ → wp_X2_isGuard (zI u) σ K') (hu : 0 ≤ u ∧ u < 10) {N : Nat} (hN : N < 268435456) (e : σ 2 (29 + u.toNat) = Int32.ofNat N) (h : K (Int32.ofNat (sb N)) σ) : wp_X2_leaveTotal (zI u) σ K := by
  unfold wp_X2_leaveTotal
  refine hi _ (one_ne ?_)
  rw [zl_29, zI_add, zI_nat (by omega) (by omega), show (29 + u).toNat = 29 + u.toNat by omega, e]
  exact ⟨zI_in (by omega) (by omega) (by decide), q_bitCount hN h⟩
theorem q_isG1 (hR : RC a (σ 2)) (hW : WF a) {u : Int} (hu : 0 ≤ u ∧ u < a 1) (K : Int32 → Mem → Prop) (h : K 1 σ) : wp_X2_isGuard (zI u) σ K := by
  have hc := hW.c
  exact q_isGuard hR hW (by omega) (by omega) (fun _ _ => h) (fun c => absurd hu c)
theorem m_leaveSlots {K : Int32 → Mem → Prop} (hG : RG a (σ 26)) (hW : WF a) {u : Int} (hu : -2147483648 ≤ u ∧ u < 2147483648) (h : 0 ≤ u → u < a 1 → K (Int32.ofNat (sb (lv a u))) (st σ 25 7 0)) (h0 : ¬ (0 ≤ u ∧ u < a 1) → K 0 (st σ 25 7 1)) : wp_X5_leaveSlots (zI u) σ K := by
  have hc := hW.c
  unfold wp_X5_leaveSlots
  refine m_isNone hG hW hu (fun c1 c2 => zero_eq ?_) (fun c => one_ne (h0 c))
  rw [zl_29, zI_add, zI_nat (by omega) (by omega), show (29 + u).toNat = 29 + u.toNat by omega, show st σ 25 7 0 26 = σ 26 from rfl, hG.lvq hW ⟨c1, by omega⟩]
  exact ⟨zI_in (by omega) (by omega) (by decide), m_bits (lvb hW ⟨c1, by omega⟩).1 (h c1 c2)⟩
/-- a leave that ends -/
theorem i_not (y : Int32) (n : Nat) : Int32.ofNat n &&& y = Int32.ofNat (n &&& y.toBitVec.toNat) := by
  rw [← i_and]
  congr 1
  apply Int32.toBitVec_inj.1
  apply BitVec.eq_of_toNat_eq
  simp [Int32.toBitVec_ofNat']
def cut (s : Int) : Nat := (((1 : Int32) <<< (zI s &&& 31)) ^^^ (-1 : Int32)).toBitVec.toNat
def lvS (a : Nat → Int) (u : Int) (N : Nat) : Nat → Int := iu a (29 + u.toNat) (N : Int)
theorem lvS_0 {u : Int} (N : Nat) {j : Nat} (hj : j < 29) : lvS a u N j = a j := iu_j _ _ (by omega)
theorem WF_lv (hW : WF a) {u : Int} (hu : 0 ≤ u ∧ u < 10) {N : Nat} (hN : N < 268435456) : WF (lvS a u N) := WF_leave hW (by omega) ⟨by omega, by omega⟩
theorem RC_lv {c : Nat → Int32} (hR : RC a c) {u : Int} (hu : 0 ≤ u ∧ u < 10) (N : Nat) : RC (lvS a u N) (upd c (29 + u.toNat) (Int32.ofNat N)) := by
  rw [← zI_n]
  exact RC_u hR (by omega) _
theorem RG_lv {c : Nat → Int32} (hG : RG a c) {u : Int} (hu : 0 ≤ u ∧ u < 10) (N : Nat) : RG (lvS a u N) (upd c (29 + u.toNat) (Int32.ofNat N)) := by
  rw [← zI_n]
  exact RG_leave hG (by omega) _
theorem q_dropLeave {K : Mem → Prop} (hR : RC a (σ 2)) (hW : WF a) {u s : Int} (hu : 0 ≤ u ∧ u < a 1) (h : K (st σ 2 (29 + u.toNat) (Int32.ofNat (lv a u &&& cut s)))) : wp_X2_dropLeave (zI u) (zI s) σ K := by
  have hc := hW.c
  unfold wp_X2_dropLeave
  refine q_isG1 hR hW hu _ (one_ne ?_)
  rw [zl_29, zI_add, zI_nat (by omega) (by omega), show (29 + u).toNat = 29 + u.toNat by omega, hR.lvq hW ⟨hu.1, by omega⟩, i_not]
  refine ⟨zI_in (by omega) (by omega) (by decide), zI_in (by omega) (by omega) (by decide), fun σ4 e => ?_⟩
  subst e
  exact h
theorem m_endLeave {K : Int32 → Mem → Prop} (hG : RG a (σ 26)) (hW : WF a) {m : Int} (hw : σ 25 6 = 0) (hm : σ 25 5 = zI m) (hm1 : 0 ≤ m ∧ m ≤ 8) {u s : Int} (hu : -2147483648 ≤ u ∧ u < 2147483648) (hs : -2147483648 ≤ s ∧ s < 2147483648) (h1 : ¬ ((0 ≤ u ∧ u < a 1) ∧ (0 ≤ s ∧ s < 28)) → K 0 (st σ 25 7 1)) (h2 : (0 ≤ u ∧ u < a 1) → (0 ≤ s ∧ s < 28) → off a u s ≠ true → K 0 (st σ 25 7 2))
    (h0 : (0 ≤ u ∧ u < a 1) → (0 ≤ s ∧ s < 28) → off a u s = true → ∀ f : Nat → Int32, KP m f (σ 27) (σ 26) → K (Int32.ofNat (sb (lv a u &&& cut s))) (st (st (va_up (st (st σ 25 7 0) 25 7 0) 27 f) 25 5 (zI (if m + 1 < 8 then m + 1 else 8))) 26 (29 + u.toNat) (Int32.ofNat (lv a u &&& cut s)))) : wp_X5_endLeave (zI u) (zI s) σ K := by
  have hc := hW.c
  unfold wp_X5_endLeave wpJ_X5_endLeave_16 wpJ_X5_endLeave_34
  refine m_isGuard hG hW hu (fun c1 c2 => one_ne ?_) (fun c => zero_eq (m_f1 (n := 1) (by decide) (one_ne (h1 (fun h => c h.1)))))
  refine m_isSlot hs (fun c3 c4 => one_ne' ?_) (fun c => zero_eq' (m_f1 (n := 1) (by decide) (one_ne (h1 (fun h => c h.2)))))
  refine m_isOff hG ⟨c1, by omega⟩ ?_
  by_cases c : off a u s = true
  · rw [if_pos c]
    refine one_ne (m_f0 (zero_eq ?_))
    have hl := lvb hW (u := u) ⟨c1, by omega⟩
    refine m_keeps_26 (σ := st σ 25 7 0) hw hm hm1 (fun f hf => ?_)
    have e : (st (va_up (st (st σ 25 7 0) 25 7 0) 27 f) 25 5 (zI (if m + 1 < 8 then m + 1 else 8))) 26 (29 + u.toNat) = Int32.ofNat (lv a u) := hG.lvq hW ⟨c1, by omega⟩
    rw [zl_29, zI_add, zI_nat (by omega) (by omega), show (29 + u).toNat = 29 + u.toNat by omega, e, i_not]
    refine ⟨zI_in (by omega) (by omega) (by decide), zI_in (by omega) (by omega) (by decide), fun σ4 e4 => ⟨zI_in (by omega) (by omega) (by decide), ?_⟩⟩
    subst e4
    rw [st_e]
    exact m_bits (Nat.lt_of_le_of_lt Nat.and_le_left hl.1) (h0 ⟨c1, c2⟩ ⟨c3, c4⟩ c f hf)
  · rw [if_neg c]
    exact zero_eq (m_f1 (n := 2) (by decide) (one_ne (h2 ⟨c1, c2⟩ ⟨c3, c4⟩ c)))
end L0
theorem o_27 {σ : Mem} (hI : Inv σ) (a1 a2 a3 a4 : Int32) : wplc_27 a1 a2 a3 a4 σ Inv := by
  obtain ⟨⟨a, hW, hR, hG⟩, hX⟩ := hI
  have hc := hW.c
  obtain ⟨u, rfl, hu⟩ := zI_ex a1
  unfold wplc_27 wp_L_leaveSlots wp_X4_leaveSlots wp_X4_throwUnlessGuard
  refine q_isGuard hR hW hu.1 hu.2 (fun c1 c2 => one_ne' ?_) (fun c => zero_eq' ⟨rfl, ?_⟩)
  · refine q_leaveTotal (q_isG1 hR hW ⟨c1, c2⟩) ⟨c1, by omega⟩ (lvb hW ⟨c1, by omega⟩).1 (hR.lvq hW ⟨c1, by omega⟩) (fun σ4 e => ?_)
    subst e
    exact m_leaveSlots (σ := st σ 34 0 _) hG hW hu (fun _ _ => fin_i rfl (fun _ => rfl) ⟨⟨a, hW, hR, hG⟩, hX⟩) (fun c => absurd ⟨c1, c2⟩ c)
  · exact m_leaveSlots hG hW hu (fun c1 c2 => absurd ⟨c1, c2⟩ c) (fun _ => fin_i rfl (fun c => absurd c (by decide)) ⟨⟨a, hW, hR, hG⟩, hX⟩)
theorem o_25 {σ : Mem} (hI : Inv σ) (a1 a2 a3 a4 : Int32) : wplc_25 a1 a2 a3 a4 σ Inv := by
  obtain ⟨⟨a, hW, hR, hG⟩, hX⟩ := hI
  have hc := hW.c
  obtain ⟨n, m, hn, hm, e1, e2, e3, hs9⟩ := id hX.1
  obtain ⟨u, rfl, hu⟩ := zI_ex a1
  obtain ⟨s, rfl, hs⟩ := zI_ex a2
  unfold wplc_25 wp_L_endLeave wp_X4_endLeave wp_X4_throwUnlessGuardAndSlot wp_X4_throwUnlessGuard wp_X4_throwUnlessSlot
  refine q_isGuard hR hW hu.1 hu.2 (fun c1 c2 => one_ne' ?_) (fun c => zero_eq' (Or.inl ⟨rfl, ?_⟩))
  · refine q_isSlot hs.1 hs.2 (fun c3 c4 => one_ne' ?_) (fun c => zero_eq' (Or.inl ⟨rfl, ?_⟩))
    · refine q_hasLeave hR hW ⟨c1, c2⟩ ?_
      by_cases c : off a u s = true
      · rw [if_pos c]
        refine one_ne' ?_
        have hl := lvb hW (u := u) ⟨c1, by omega⟩
        have hl2 : (lv a u &&& cut s) < 268435456 := Nat.lt_of_le_of_lt Nat.and_le_left hl.1
        have hW2 := WF_lv hW (u := u) ⟨c1, by omega⟩ hl2
        refine q_keep e1 hn e2 hm ?_
        refine q_dropLeave (σ := st (st (wr σ (Rn σ n.toNat)) 4 1 _) 4 2 _) hR hW ⟨c1, c2⟩ ?_
        have hR2 := RC_lv (u := u) hR ⟨c1, by omega⟩ (lv a u &&& cut s)
        refine q_leaveTotal (q_isG1 (a := lvS a u (lv a u &&& cut s)) hR2 hW2 ⟨c1, by rw [lvS_0 _ (by decide)]; exact c2⟩) ⟨c1, by omega⟩ hl2 (st_e _ _ _ _) (fun σ4 e => ?_)
        subst e
        refine m_endLeave (σ := st (st (st (st (wr σ (Rn σ n.toNat)) 4 1 _) 4 2 _) 2 (29 + u.toNat) (Int32.ofNat (lv a u &&& cut s))) 34 0 (Int32.ofNat (sb (lv a u &&& cut s)))) hG hW hX.2.2.1 e3 hm hu hs (fun h => absurd ⟨⟨c1, c2⟩, c3, c4⟩ h) (fun _ _ h => absurd c h) (fun _ _ _ f hf => ?_)
        exact fin_i rfl (fun _ => rfl) ⟨⟨lvS a u (lv a u &&& cut s), hW2, hR2, RG_lv hG ⟨c1, by omega⟩ _⟩, HS_push hn hm hs9 hW hR hG hf (ring_wr ⟨rfl, rfl, rfl, rfl, rfl, rfl, rfl, rfl, rfl⟩), hX.2⟩
      · rw [if_neg c]
        refine zero_eq' (Or.inr ⟨rfl, ?_⟩)
        exact m_endLeave hG hW hX.2.2.1 e3 hm hu hs (fun h => absurd ⟨⟨c1, c2⟩, c3, c4⟩ h) (fun _ _ _ => fin_i rfl (fun c => absurd c (by decide)) ⟨⟨a, hW, hR, hG⟩, hX⟩) (fun _ _ h => absurd h c)
    · exact m_endLeave hG hW hX.2.2.1 e3 hm hu hs (fun _ => fin_i rfl (fun c => absurd c (by decide)) ⟨⟨a, hW, hR, hG⟩, hX⟩) (fun _ h => absurd h c) (fun _ h => absurd h c)
  · exact m_endLeave hG hW hX.2.2.1 e3 hm hu hs (fun _ => fin_i rfl (fun c => absurd c (by decide)) ⟨⟨a, hW, hR, hG⟩, hX⟩) (fun h => absurd h c) (fun h => absurd h c)
