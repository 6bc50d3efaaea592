/-! leaves granted -/
theorem fs_zero {p : Int → Bool} {n : Int} (h0 : 0 ≤ n) (h : ∀ i, 0 ≤ i → i < n → p i = false) : fs p n = -1 := by
  rw [fs_cut (m := 0) (by decide) h0 h]
  rfl
theorem fs_bef {p : Int → Bool} {n i : Int} (h0 : 0 ≤ i) (h : i < fs p n) (hn : 0 ≤ n) : p i = false := by
  have hr := fs_rng p hn
  by_cases c : fs p i = -1
  · cases hp : p i with
    | false => rfl
    | true =>
      have := fs_found p (m := n) h0 (by omega) c hp
      omega
  · have h1 := fs_stay p (m := n) h0 (by omega) c
    have h2 := fs_rng p h0
    omega
theorem fgh_step {a : Nat → Int} {u x l : Int} (h : x ≤ l) : fgh a u x l = if held a u x ≠ -1 then held a u x else fgh a u (x + 1) l := by
  by_cases c : held a u x ≠ -1
  · rw [if_pos c]
    have e : fsl a u x l = 0 := fs_found _ (by decide) (by omega) rfl (decide_eq_true (by rw [Int.add_zero]; exact c))
    unfold fgh
    rw [e, if_neg (by decide), Int.add_zero]
  · rw [if_neg c]
    by_cases d : fsl a u (x + 1) l = -1
    · have e : fsl a u x l = -1 := by
        refine fs_zero (by omega) (fun i h0 h1 => ?_)
        by_cases z : i = 0
        · exact decide_eq_false (by rw [z, Int.add_zero]; exact c)
        · have := fs_none _ d (i - 1) (by omega) (by omega)
          rwa [show x + 1 + (i - 1) = x + i by omega] at this
      unfold fgh
      rw [e, d, if_pos rfl, if_pos rfl]
    · have hi := fs_is _ (n := l - (x + 1) + 1) (by omega) d
      have e : fsl a u x l = fsl a u (x + 1) l + 1 := by
        refine fs_found _ (by unfold fsl; omega) (by unfold fsl; omega) (fs_zero (by unfold fsl; omega) (fun i h0 h1 => ?_)) ?_
        · by_cases z : i = 0
          · exact decide_eq_false (by rw [z, Int.add_zero]; exact c)
          · have := fs_bef (p := fun i => decide (held a u (x + 1 + i) ≠ -1)) (n := l - (x + 1) + 1) (i := i - 1) (by omega) (by unfold fsl at h1; omega) (by omega)
            rwa [show x + 1 + (i - 1) = x + i by omega] at this
        · have := hi.2.2
          rwa [show x + (fsl a u (x + 1) l + 1) = x + 1 + fsl a u (x + 1) l by omega]
      have e0 : 0 ≤ fsl a u (x + 1) l := hi.1
      unfold fgh
      rw [e, if_neg (by omega), if_neg d, show x + (fsl a u (x + 1) l + 1) = x + 1 + fsl a u (x + 1) l by omega]
theorem fgh_end (a : Nat → Int) (u l : Int) : fgh a u (l + 1) l = -1 := by
  have e : fsl a u (l + 1) l = -1 := by
    unfold fsl
    rw [show l - (l + 1) + 1 = 0 by omega]
    rfl
  unfold fgh
  rw [if_pos e]
theorem fgh_rng (a : Nat → Int) (u x l : Int) : -1 ≤ fgh a u x l ∧ fgh a u x l < 5 := by
  have := held_rng a u (x + fsl a u x l)
  unfold fgh
  split <;> omega
def mkN (f : Nat) : Nat → Nat
  | 0 => 0
  | k + 1 => mkN f k ||| 2 ^ (f + k)
theorem mkN_lt {f : Nat} : ∀ k, f + k ≤ 28 → mkN f k < 268435456
  | 0, _ => by show 0 < 268435456; decide
  | k + 1, h => by
    have h1 : mkN f k < 2 ^ 28 := mkN_lt k (by omega)
    have h2 : 2 ^ (f + k) < 2 ^ 28 := Nat.pow_lt_pow_right (by decide) (by omega)
    exact Nat.or_lt_two_pow h1 h2
theorem mkN_top (f : Nat) : ∀ k, mkN f (k + 1) = mkN (f + 1) k ||| 2 ^ f
  | 0 => by simp [mkN]
  | k + 1 => by
    show mkN f (k + 1) ||| 2 ^ (f + (k + 1)) = (mkN (f + 1) k ||| 2 ^ (f + 1 + k)) ||| 2 ^ f
    rw [mkN_top f k, Nat.or_assoc, Nat.or_assoc, Nat.or_comm (2 ^ f), show f + (k + 1) = f + 1 + k by omega]
theorem st_s (σ : Mem) (c j : Nat) : st σ c j (σ c j) = σ := by
  funext d i
  by_cases hd : d = c
  · subst hd
    by_cases hi : i = j
    · subst hi; rw [st_e]
    · rw [st_j _ _ _ hi]
  · rw [st_c _ _ _ hd]
section G0
variable {a : Nat → Int} {σ : Mem}
def gl (a : Nat → Int) (u f l : Int) : Nat := lv a u ||| mkN f.toNat (l - f + 1).toNat
theorem gl_lt (hW : WF a) {u f l : Int} (hu : 0 ≤ u ∧ u < 10) (hf : 0 ≤ f ∧ f ≤ l) (hl : l < 28) : gl a u f l < 268435456 := Nat.or_lt_two_pow (n := 28) (lvb hW hu).1 (mkN_lt _ (by omega))
theorem q_problemOfLeave {K : Int32 → Mem → Prop} (hR : RC a (σ 2)) (hW : WF a) {u f l : Int} (hu : -2147483648 ≤ u ∧ u < 2147483648) (hf : -2147483648 ≤ f ∧ f < 2147483648) (hl : -2147483648 ≤ l ∧ l < 2147483648)
    (h1 : ¬ (0 ≤ u ∧ u < a 1) → K 1 σ) (h2 : (0 ≤ u ∧ u < a 1) → ¬ (0 ≤ f ∧ f ≤ l ∧ l < 28) → K 2 σ) (h3 : (0 ≤ u ∧ u < a 1) → (0 ≤ f ∧ f ≤ l ∧ l < 28) → f < a 3 → K 3 σ)
    (h0 : (0 ≤ u ∧ u < a 1) → (0 ≤ f ∧ f ≤ l ∧ l < 28) → a 3 ≤ f → fgh a u f l = -1 → K 0 σ) (h5 : (0 ≤ u ∧ u < a 1) → (0 ≤ f ∧ f ≤ l ∧ l < 28) → a 3 ≤ f → fgh a u f l ≠ -1 → K 5 (st (st σ 0 8 4) 0 9 (zI (fgh a u f l)))) : wp_X4_problemOfLeave (zI u) (zI f) (zI l) σ K := by
  have hc := hW.c
  have hr := fgh_rng a u f l
  unfold wp_X4_problemOfLeave wp_X4_keepRefusal
  refine q_isGuard hR hW hu.1 hu.2 (fun c1 c2 => one_ne' ?_) (fun c => zero_eq' (h1 c))
  refine q_isSlot hf.1 hf.2 (fun c3 c4 => one_ne ?_) (fun c => zero_eq (h2 ⟨c1, c2⟩ (by omega)))
  refine q_isSlot hl.1 hl.2 (fun c5 c6 => one_ne ?_) (fun c => zero_eq (h2 ⟨c1, c2⟩ (by omega)))
  refine br_le hf hl (fun c7 => ?_) (fun c => h2 ⟨c1, c2⟩ (by omega))
  refine q_hasPassed hR hW hf.1 hf.2 (fun c => one_ne (h3 ⟨c1, c2⟩ ⟨c3, c7, c6⟩ c)) (fun c => zero_eq ?_)
  refine q_firstGateHeld hR hW ⟨c1, by omega⟩ ⟨c3, c7⟩ c6 (br_m1 (by omega) (fun c9 => h0 ⟨c1, c2⟩ ⟨c3, c7, c6⟩ c c9) (fun c9 σ1 e1 σ2 e2 => ?_))
  subst e2; subst e1
  exact h5 ⟨c1, c2⟩ ⟨c3, c7, c6⟩ c c9
theorem q_addLeave {K : Int32 → Mem → Prop} (hR : RC a (σ 2)) (hW : WF a) {u f l : Int} (hu : 0 ≤ u ∧ u < a 1) (hf : 0 ≤ f ∧ f ≤ l) (hl : l < 28)
    (h : K (Int32.ofNat (sb (gl a u f l)) - Int32.ofNat (sb (lv a u))) (st σ 2 (29 + u.toNat) (Int32.ofNat (gl a u f l)))) : wp_X2_addLeave (zI u) (zI f) (zI l) σ K := by
  have hc := hW.c
  have hb := lvb hW (u := u) ⟨hu.1, by omega⟩
  have he := hR.lvq hW (u := u) ⟨hu.1, by omega⟩
  unfold wp_X2_addLeave
  refine q_leaveTotal (q_isG1 hR hW hu) ⟨hu.1, by omega⟩ hb.1 he ?_
  have h9 := lpI (F := wpF_X2_addLeave_10 K) (fun i => (zI u, zI l, Int32.ofNat (sb (lv a u)), zI (f + i), st σ 2 (29 + u.toNat) (Int32.ofNat (lv a u ||| mkN f.toNat i.toNat)))) (fun i => 0 ≤ i) (l - f + 1) (fun B hP => ?_) (fun i B hi hP hB => ?_) 0 (by omega) (by decide)
  · have e0 : st σ 2 (29 + u.toNat) (Int32.ofNat (lv a u ||| mkN f.toNat (0 : Int).toNat)) = σ := by
      rw [show mkN f.toNat (0 : Int).toNat = 0 from rfl, Nat.or_zero, ← he]
      exact st_s σ 2 _
    rw [e0, Int.add_zero] at h9
    exact h9
  · show wpS_X2_addLeave_10 K B (zI u) (zI l) (Int32.ofNat (sb (lv a u))) (zI (f + (l - f + 1))) (st σ 2 (29 + u.toNat) (Int32.ofNat (gl a u f l)))
    unfold wpS_X2_addLeave_10
    refine br_lt (by omega) (by omega) (fun _ => ?_) (fun c => absurd c (by omega))
    have hg := gl_lt hW (u := u) ⟨hu.1, by omega⟩ hf hl
    exact q_leaveTotal (q_isG1 (a := lvS a u (gl a u f l)) (RC_lv hR ⟨hu.1, by omega⟩ _) (WF_lv hW ⟨hu.1, by omega⟩ hg) ⟨hu.1, by rw [lvS_0 _ (by decide)]; exact hu.2⟩) ⟨hu.1, by omega⟩ hg (st_e _ _ _ _) h
  · show wpS_X2_addLeave_10 K B (zI u) (zI l) (Int32.ofNat (sb (lv a u))) (zI (f + i)) (st σ 2 (29 + u.toNat) (Int32.ofNat (lv a u ||| mkN f.toNat i.toNat)))
    have hg : lv a u ||| mkN f.toNat i.toNat < 268435456 := Nat.or_lt_two_pow (n := 28) hb.1 (mkN_lt _ (by omega))
    unfold wpS_X2_addLeave_10 wpJ_X2_addLeave_47
    refine br_lt (by omega) (by omega) (fun c => absurd c (by omega)) (fun _ => ?_)
    rw [zl_28]
    refine br_le (by omega) (by omega) (fun c => absurd c (by omega)) (fun _ => ?_)
    refine q_isG1 (a := lvS a u (lv a u ||| mkN f.toNat i.toNat)) (RC_lv hR ⟨hu.1, by omega⟩ _) (WF_lv hW ⟨hu.1, by omega⟩ hg) ⟨hu.1, by rw [lvS_0 _ (by decide)]; exact hu.2⟩ _ (one_ne ?_)
    rw [zl_29, zI_add, zI_nat (by omega) (by omega), show (29 + u).toNat = 29 + u.toNat by omega, st_e, zI_t (s := f + i) (by omega), sh_2 _ (by omega), i_or, st_st]
    refine ⟨zI_in (by omega) (by omega) (by decide), zI_in (by omega) (by omega) (by decide), fun σ4 e4 v10 e5 => ?_⟩
    subst e4
    rw [zl_1, ← zI_t (by omega), zI_add] at e5
    subst e5
    have := hB (by omega)
    rw [show (i + 1).toNat = i.toNat + 1 by omega, show f + (i + 1) = f + i + 1 by omega] at this
    rw [Nat.or_assoc, show (f + i).toNat = f.toNat + i.toNat by omega]
    exact this
/-- what the model's loop has told at slot x -/
def gT (σ : Mem) (d : Int) : Mem := if d = -1 then σ else st (st (st σ 25 8 4) 25 9 (zI d)) 25 7 4
theorem gT_26 (d : Int) : gT σ d 26 = σ 26 := by
  unfold gT
  split
  · rfl
  · rfl
theorem gT_gT (d e : Int) (he : e ≠ -1) : st (st (st (gT σ d) 25 8 4) 25 9 (zI e)) 25 7 4 = gT σ e := by
  have h0 : gT σ e = st (st (st σ 25 8 4) 25 9 (zI e)) 25 7 4 := if_neg he
  rw [h0]
  by_cases c : d = -1
  · rw [show gT σ d = σ from if_pos c]
  · rw [show gT σ d = st (st (st σ 25 8 4) 25 9 (zI d)) 25 7 4 from if_neg c]
    funext q i
    by_cases hq : q = 25
    · subst hq
      by_cases h7 : i = 7
      · subst h7; rw [st_e, st_e]
      · rw [st_j _ _ _ h7, st_j (st (st σ 25 8 4) 25 9 (zI e)) _ _ h7]
        by_cases h9 : i = 9
        · subst h9; rw [st_e, st_e]
        · rw [st_j _ _ _ h9, st_j _ _ _ h9]
          by_cases h8 : i = 8
          · subst h8; rw [st_e, st_e]
          · rw [st_j _ _ _ h8, st_j _ _ _ h8, st_j _ _ _ h7, st_j _ _ _ h9, st_j _ _ _ h8]
    · rw [st_c _ _ _ hq, st_c _ _ _ hq, st_c _ _ _ hq, st_c _ _ _ hq, st_c _ _ _ hq, st_c _ _ _ hq, st_c _ _ _ hq, st_c _ _ _ hq, st_c _ _ _ hq]
theorem m_grantLeave {K : Int32 → Mem → Prop} (hG : RG a (σ 26)) (hW : WF a) {m : Int} (hw : σ 25 6 = 0) (hm : σ 25 5 = zI m) (hm1 : 0 ≤ m ∧ m ≤ 8) {u f l : Int} (hu : -2147483648 ≤ u ∧ u < 2147483648) (hf : -2147483648 ≤ f ∧ f < 2147483648) (hl : -2147483648 ≤ l ∧ l < 2147483648)
    (h1 : ¬ (0 ≤ u ∧ u < a 1) → K 0 (st σ 25 7 1)) (h2 : (0 ≤ u ∧ u < a 1) → ¬ (0 ≤ f ∧ f ≤ l ∧ l < 28) → K 0 (st σ 25 7 2)) (h3 : (0 ≤ u ∧ u < a 1) → (0 ≤ f ∧ f ≤ l ∧ l < 28) → f < a 3 → K 0 (st (st σ 25 7 0) 25 7 3))
    (h5 : (0 ≤ u ∧ u < a 1) → (0 ≤ f ∧ f ≤ l ∧ l < 28) → a 3 ≤ f → fgh a u f l ≠ -1 → K 0 (st (st (st (st (st σ 25 7 0) 25 7 0) 25 8 4) 25 9 (zI (fgh a u f l))) 25 7 4))
    (h0 : (0 ≤ u ∧ u < a 1) → (0 ≤ f ∧ f ≤ l ∧ l < 28) → a 3 ≤ f → fgh a u f l = -1 → ∀ g : Nat → Int32, KP m g (σ 27) (σ 26) → K (Int32.ofNat (sb (gl a u f l)) - Int32.ofNat (sb (lv a u))) (st (st (va_up (st (st (st σ 25 7 0) 25 7 0) 25 7 0) 27 g) 25 5 (zI (if m + 1 < 8 then m + 1 else 8))) 26 (29 + u.toNat) (Int32.ofNat (gl a u f l)))) : wp_X5_grantLeave (zI u) (zI f) (zI l) σ K := by
  have hc := hW.c
  unfold wp_X5_grantLeave wpJ_X5_grantLeave_36 wpJ_X5_grantLeave_37
  refine m_isGuard hG hW hu (fun c1 c2 => one_ne' ?_) (fun c => zero_eq' (m_f1 (n := 1) (by decide) (one_ne (h1 c))))
  refine m_isSlot hf (fun c3 c4 => one_ne ?_) (fun c => zero_eq (m_f1 (n := 2) (by decide) (one_ne (h2 ⟨c1, c2⟩ (by omega)))))
  refine m_isSlot hl (fun c5 c6 => one_ne ?_) (fun c => zero_eq (m_f1 (n := 2) (by decide) (one_ne (h2 ⟨c1, c2⟩ (by omega)))))
  refine br_lt hl hf (fun c => m_f1 (n := 2) (by decide) (one_ne (h2 ⟨c1, c2⟩ (by omega)))) (fun c7 => ?_)
  refine m_f0 (zero_eq ?_)
  rw [show st σ 25 7 0 26 = σ 26 from rfl, hG.2.2.1]
  unfold wpJ_X5_grantLeave_61
  refine br_le (by omega) (by omega) (fun c8 => m_f0 (zero_eq ?_)) (fun c => m_f1 (n := 3) (by decide) (one_ne (h3 ⟨c1, c2⟩ ⟨c3, c7, c6⟩ c)))
  have hb := lvb hW (u := u) ⟨c1, by omega⟩
  have hg := gl_lt hW (u := u) ⟨c1, by omega⟩ ⟨c3, c7⟩ c6
  have h9 := lpI (F := wpF_X5_grantLeave_75 K) (fun j => (zI u, zI f, Int32.ofNat (mkN (l + 1 - j).toNat j.toNat), zI (l - j), gT (st (st σ 25 7 0) 25 7 0) (fgh a u (l + 1 - j) l))) (fun j => 0 ≤ j) (l - f + 1) (fun B hP => ?_) (fun j B hi hP hB => ?_) 0 (by omega) (by decide)
  · have eg : gT (st (st σ 25 7 0) 25 7 0) (-1) = st (st σ 25 7 0) 25 7 0 := if_pos rfl
    rw [show l + 1 - 0 = l + 1 by omega, fgh_end, eg, Int.sub_zero] at h9
    exact h9
  · show wpS_X5_grantLeave_75 K B (zI u) (zI f) (Int32.ofNat (mkN (l + 1 - (l - f + 1)).toNat (l - f + 1).toNat)) (zI (l - (l - f + 1))) (gT (st (st σ 25 7 0) 25 7 0) (fgh a u (l + 1 - (l - f + 1)) l))
    rw [show l + 1 - (l - f + 1) = f by omega]
    unfold wpS_X5_grantLeave_75 wpJ_X5_grantLeave_130
    refine br_lt (by omega) (by omega) (fun _ => ?_) (fun c => absurd c (by omega))
    by_cases d : fgh a u f l = -1
    · have e9 : gT (st (st σ 25 7 0) 25 7 0) (fgh a u f l) = st (st σ 25 7 0) 25 7 0 := if_pos d
      rw [e9, st_e]
      refine ⟨fun _ => ?_, fun c => absurd (by decide) c⟩
      rw [zl_29, zI_add, zI_nat (by omega) (by omega), show (29 + u).toNat = 29 + u.toNat by omega, show st (st σ 25 7 0) 25 7 0 26 = σ 26 from rfl, hG.lvq hW ⟨c1, by omega⟩]
      refine ⟨zI_in (by omega) (by omega) (by decide), m_bits hb.1 ?_⟩
      refine m_keeps_26 (σ := st (st σ 25 7 0) 25 7 0) hw hm hm1 (fun g hg2 => ?_)
      have e8 : (st (va_up (st (st (st σ 25 7 0) 25 7 0) 25 7 0) 27 g) 25 5 (zI (if m + 1 < 8 then m + 1 else 8))) 26 (29 + u.toNat) = Int32.ofNat (lv a u) := hG.lvq hW ⟨c1, by omega⟩
      rw [e8, i_or]
      refine ⟨zI_in (by omega) (by omega) (by decide), zI_in (by omega) (by omega) (by decide), fun σ4 e4 => ⟨zI_in (by omega) (by omega) (by decide), ?_⟩⟩
      subst e4
      rw [st_e]
      exact m_bits hg (h0 ⟨c1, c2⟩ ⟨c3, c7, c6⟩ c8 d g hg2)
    · have e9 : gT (st (st σ 25 7 0) 25 7 0) (fgh a u f l) = st (st (st (st (st σ 25 7 0) 25 7 0) 25 8 4) 25 9 (zI (fgh a u f l))) 25 7 4 := if_neg d
      rw [e9, st_e]
      exact ⟨fun c => absurd c (by decide), fun _ => h5 ⟨c1, c2⟩ ⟨c3, c7, c6⟩ c8 d⟩
  · show wpS_X5_grantLeave_75 K B (zI u) (zI f) (Int32.ofNat (mkN (l + 1 - j).toNat j.toNat)) (zI (l - j)) (gT (st (st σ 25 7 0) 25 7 0) (fgh a u (l + 1 - j) l))
    have hr := held_rng a u (l - j)
    have hstep := fgh_step (a := a) (u := u) (x := l - j) (l := l) (by omega)
    rw [show l - j + 1 = l + 1 - j by omega] at hstep
    have hB2 := hB (by omega)
    rw [show l + 1 - (j + 1) = l - j by omega, show (j + 1).toNat = j.toNat + 1 by omega, mkN_top, hstep, show (l - j).toNat + 1 = (l + 1 - j).toNat by omega, show l - (j + 1) = l - j + -1 by omega] at hB2
    unfold wpS_X5_grantLeave_75 wpJ_X5_grantLeave_124
    refine br_lt (by omega) (by omega) (fun c => absurd c (by omega)) (fun _ v22 e22 => ?_)
    rw [zI_t (s := l - j) (by omega), sh_2 _ (by omega), i_or] at e22
    subst e22
    refine m_where (by rw [gT_26]; exact hG) hW ⟨c1, by omega⟩ (by omega) (br_ge0 (by omega) (fun c σ4 e4 => ?_) (fun c v31 e31 => ?_))
    · subst e4
      refine m_where (by rw [st_c _ _ _ (show (26 : Nat) ≠ 25 by decide), gT_26]; exact hG) hW ⟨c1, by omega⟩ (by omega) (fun σ5 e5 σ6 e6 v31 e31 => ?_)
      subst e6; subst e5
      rw [zl_m1, zI_add] at e31
      subst e31
      rw [gT_gT _ _ (by omega)]
      rw [if_pos (by omega)] at hB2
      exact hB2
    · rw [zl_m1, zI_add] at e31
      subst e31
      rw [if_neg (by omega)] at hB2
      exact hB2
end G0
theorem o_24 {σ : Mem} (hI : Inv σ) (a1 a2 a3 a4 : Int32) : wplc_24 a1 a2 a3 a4 σ Inv := by
  obtain ⟨⟨a, hW, hR, hG⟩, hX⟩ := hI
  have hc := hW.c
  obtain ⟨n, m, hn, hm, e1, e2, e3, hs9⟩ := id hX.1
  obtain ⟨u, rfl, hu⟩ := zI_ex a1
  obtain ⟨f, rfl, hf⟩ := zI_ex a2
  obtain ⟨l, rfl, hl⟩ := zI_ex a3
  unfold wplc_24 wp_L_grantLeave wp_X4_grantLeave
  refine q_problemOfLeave hR hW hu hf hl (fun c => tf1 (Or.inl ⟨rfl, ?_⟩)) (fun c1 c => tf2 (Or.inr (Or.inl ⟨rfl, ?_⟩))) (fun c1 c2 c => tf3 (Or.inr (Or.inr (Or.inl ⟨rfl, ?_⟩)))) (fun c1 c2 c3 c => tf0 ?_) (fun c1 c2 c3 c => tf5 (Or.inr (Or.inr (Or.inr ⟨rfl, ?_⟩))))
  · exact m_grantLeave hG hW hX.2.2.1 e3 hm hu hf hl (fun _ => fin_i rfl (fun c => absurd c (by decide)) ⟨⟨a, hW, hR, hG⟩, hX⟩) (fun h _ => absurd h c) (fun h _ _ => absurd h c) (fun h _ _ _ => absurd h c) (fun h _ _ _ => absurd h c)
  · exact m_grantLeave hG hW hX.2.2.1 e3 hm hu hf hl (fun h => absurd c1 h) (fun _ _ => fin_i rfl (fun c => absurd c (by decide)) ⟨⟨a, hW, hR, hG⟩, hX⟩) (fun _ h _ => absurd h c) (fun _ h _ _ => absurd h c) (fun _ h _ _ => absurd h c)
  · exact m_grantLeave hG hW hX.2.2.1 e3 hm hu hf hl (fun h => absurd c1 h) (fun _ h => absurd c2 h) (fun _ _ _ => fin_i rfl (fun c => absurd c (by decide)) ⟨⟨a, hW, hR, hG⟩, hX⟩) (fun _ _ h _ => absurd h (by omega)) (fun _ _ h _ => absurd h (by omega))
  · have hb := lvb hW (u := u) ⟨c1.1, by omega⟩
    have hg := gl_lt hW (u := u) ⟨c1.1, by omega⟩ ⟨c2.1, c2.2.1⟩ c2.2.2
    refine q_keep e1 hn e2 hm ?_
    refine q_addLeave (σ := st (st (wr σ (Rn σ n.toNat)) 4 1 _) 4 2 _) hR hW c1 ⟨c2.1, c2.2.1⟩ c2.2.2 (fun σ4 e => ?_)
    subst e
    refine m_grantLeave (σ := st (st (st (st (wr σ (Rn σ n.toNat)) 4 1 _) 4 2 _) 2 (29 + u.toNat) (Int32.ofNat (gl a u f l))) 34 0 (Int32.ofNat (sb (gl a u f l)) - Int32.ofNat (sb (lv a u)))) hG hW hX.2.2.1 e3 hm hu hf hl (fun h => absurd c1 h) (fun _ h => absurd c2 h) (fun _ _ h => absurd h (by omega)) (fun _ _ _ h => absurd c h) (fun _ _ _ _ g hg2 => ?_)
    exact fin_i rfl (fun _ => rfl) ⟨⟨lvS a u (gl a u f l), WF_lv hW ⟨c1.1, by omega⟩ hg, RC_lv hR ⟨c1.1, by omega⟩ _, RG_lv hG ⟨c1.1, by omega⟩ _⟩, HS_push hn hm hs9 hW hR hG hg2 (ring_wr ⟨rfl, rfl, rfl, rfl, rfl, rfl, rfl, rfl, rfl⟩), hX.2⟩
  · refine m_grantLeave (σ := st (st σ 0 8 _) 0 9 _) hG hW hX.2.2.1 e3 hm hu hf hl (fun h => absurd c1 h) (fun _ h => absurd c2 h) (fun _ _ h => absurd h (by omega)) (fun _ _ _ _ => ?_) (fun _ _ _ h => absurd h c)
    exact fin_i rfl (fun c => absurd c (by decide)) ⟨⟨a, hW, hR, hG⟩, hX.1, hX.2.1, hX.2.2.1, ⟨rfl, rfl⟩, hX.2.2.2.2⟩
