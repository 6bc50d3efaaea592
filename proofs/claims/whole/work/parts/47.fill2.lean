/-! filling a slot: the rounds -/
theorem up_up (σ : Mem) (c j : Nat) (v : Int32) (f : Nat → Int32) : va_up (st σ c j v) c f = va_up σ c f := by
  funext d i
  unfold va_up
  by_cases h : d = c
  · rw [if_pos h, if_pos h]
  · rw [if_neg h, if_neg h]
    exact congrFun (st_c σ j v h) i
def fNx (key : Int → Int) (s : Int) (a : Nat → Int) (m : Nat) : Nat → Int := if fgu key s a (fgt a m) = -1 then a else sD a (fgt a m) s (fgu key s a (fgt a m))
def fls (key : Int → Int) (s : Int) : Nat → (Nat → Int) → Nat → Int → (Nat → Int) × Int
  | 0, a, _, c => (a, c)
  | r + 1, a, m, c => fls key s r (fNx key s a m) (m ||| 2 ^ (fgt a m).toNat) (if fgu key s a (fgt a m) = -1 then c else c + 1)
def unm (m : Nat) (n : Int) : Int := cn (fun k => !mb m k) n
theorem fgt_ok {a : Nat → Int} (hW : WF a) {m r : Nat} (h : unm m (a 0) = r + 1) : 0 ≤ fgt a m ∧ fgt a m < a 0 ∧ mb m (fgt a m) = false := by
  have hc := hW.c
  rcases bs_max (fun k => !mb m k) (fun k => a (4 + k.toNat)) (n := a 0) hc.1.1 with ⟨_, b2⟩ | ⟨b1, b2, b3, _, _⟩
  · obtain ⟨j, j1, j2, j3⟩ := cn_pos hc.1.1 (show 1 ≤ cn (fun k => !mb m k) (a 0) by unfold unm at h; omega)
    rw [b2 j j1 j2] at j3
    exact absurd j3 (by decide)
  · refine ⟨b1, b2, ?_⟩
    have : (!mb m (fgt a m)) = true := b3
    cases e : mb m (fgt a m) with
    | false => rfl
    | true => rw [e] at this; exact absurd this (by decide)
theorem cn_one {g n : Int} (hg : 0 ≤ g ∧ g < n) : cn (fun k => decide (k = g)) n = 1 := by
  have h1 := cn_ge1 (p := fun k => decide (k = g)) hg.1 hg.2 (decide_eq_true rfl)
  have h2 := cn_le1 (p := fun k => decide (k = g)) (n := n) (by omega) (fun i j _ _ _ _ hi hj => by rw [of_decide_eq_true hi, of_decide_eq_true hj])
  omega
theorem unm_s {m : Nat} (hm : m < 32) {n g : Int} (hn : 0 ≤ n ∧ n ≤ 5) (hg : 0 ≤ g ∧ g < n) (hb : mb m g = false) : unm m n = unm (m ||| 2 ^ g.toNat) n + 1 := by
  have e := cn_or (p := fun k => !mb (m ||| 2 ^ g.toNat) k) (q := fun k => decide (k = g)) (r := fun k => !mb m k) (n := n) hn.1 (fun i i1 i2 => by
    rw [mb_or hm (by omega) (by omega)]
    by_cases c : i = g
    · subst c; simp [hb]
    · simp [c])
  rw [cn_one hg] at e
  exact e
theorem fNx_0 {key : Int → Int} {s : Int} {a : Nat → Int} {m r : Nat} (hW : WF a) (hs : 0 ≤ s) (h : unm m (a 0) = r + 1) {j : Nat} (hj : j < 39) : fNx key s a m j = a j := by
  have := fgt_ok hW h
  unfold fNx
  split
  · rfl
  · exact sD_0 this.1 hs _ hj
theorem fgu_rng {key : Int → Int} {s : Int} {a : Nat → Int} {g : Int} (hW : WF a) : -1 ≤ fgu key s a g ∧ fgu key s a g < a 1 := bs_rng _ _ hW.2.1.1
theorem fNx_W {key : Int → Int} {s : Int} {a : Nat → Int} {m r : Nat} (hW : WF a) (hs : 0 ≤ s ∧ s < 28) (h : unm m (a 0) = r + 1) : WF (fNx key s a m) := by
  have h1 := fgt_ok hW h
  have h2 := fgu_rng (key := key) (s := s) (g := fgt a m) hW
  unfold fNx
  split
  · exact hW
  · exact WF_duty hW ⟨h1.1, h1.2.1⟩ hs ⟨by omega, h2.2⟩
theorem q_fillLoop {K : Int32 → Mem → Prop} {key : Int → Int} (hk : ∀ u, 0 ≤ u → u < 10 → 0 ≤ key u ∧ key u < 15000) {s : Int} (hs : 0 ≤ s ∧ s < 28) : ∀ (r : Nat) (a : Nat → Int) (m : Nat) (c : Int) (σ : Mem), WF a → RC a (σ 2) → (∀ j : Nat, j < 10 → σ 3 j = zI (key j)) → m < 32 → unm m (a 0) = r → (0 ≤ c ∧ c + r ≤ 5) →
    (∀ row : Nat → Int32, WF (fls key s r a m c).1 → RC (fls key s r a m c).1 row → K (zI (fls key s r a m c).2) (va_up σ 2 row)) → wlp (wpF_X2_fill_11 K) (r + 1) (zI s, zI c, Int32.ofNat m, zI (a 0 - r), σ)
  | 0, a, m, c, σ, hW, hR, hK, hm, hu, hcr, h => by
    have hc := hW.c
    show wpS_X2_fill_11 K (wlp (wpF_X2_fill_11 K) 0) (zI s) (zI c) (Int32.ofNat m) (zI (a 0 - (0 : Nat))) σ
    unfold wpS_X2_fill_11
    have := h (σ 2) hW hR
    rw [up_s] at this
    exact q_gates hR (br_le (by omega) (by omega) (fun _ => this) (fun c => absurd c (by omega)))
  | r + 1, a, m, c, σ, hW, hR, hK, hm, hu, hcr, h => by
    have hc := hW.c
    show wpS_X2_fill_11 K (wlp (wpF_X2_fill_11 K) (r + 1)) (zI s) (zI c) (Int32.ofNat m) (zI (a 0 - (r + 1 : Nat))) σ
    have hg := fgt_ok hW (m := m) (r := r) (by omega)
    have hu2 := fgu_rng (key := key) (s := s) (g := fgt a m) hW
    have hr := cn_rng (fun k => !mb m k) (k := a 0) hc.1.1
    have hus := unm_s hm hc.1 ⟨hg.1, hg.2.1⟩ hg.2.2
    have e0 : fNx key s a m 0 = a 0 := fNx_0 hW hs.1 (m := m) (r := r) (by omega) (by decide)
    have hW2 := fNx_W (key := key) hW hs (m := m) (r := r) (by omega)
    have hl := mb_lt hm (g := fgt a m) (by omega)
    change 0 ≤ unm m (a 0) ∧ unm m (a 0) ≤ a 0 at hr
    unfold wpS_X2_fill_11 wpJ_X2_fill_61
    refine q_gates hR (br_le (by omega) (by omega) (fun c => absurd c (by omega)) (fun _ => ?_))
    refine q_mostNeedingGate hR hW hm (fun v7 e7 => ?_)
    rw [zI_t hg.1, sh_2 _ (by omega), i_or] at e7
    subst e7
    refine q_firstGuardFor hR hW hK hk ⟨hg.1, hg.2.1⟩ hs (br_m1 (by omega) (fun c1 v11 e11 => ?_) (fun c1 => ?_))
    · rw [zl_1, zI_add, show a 0 - ((r + 1 : Nat) : Int) + 1 = a 0 - r by omega] at e11
      subst e11
      have e1 : fNx key s a m = a := if_pos c1
      have ih := q_fillLoop hk hs r a (m ||| 2 ^ (fgt a m).toNat) c σ hW hR hK hl (by omega) (by omega) (fun row w1 w2 => by
        have := h row
        rw [show fls key s (r + 1) a m c = fls key s r (fNx key s a m) (m ||| 2 ^ (fgt a m).toNat) (if fgu key s a (fgt a m) = -1 then c else c + 1) from rfl, e1, if_pos c1] at this
        exact this w1 w2)
      exact ih
    · have e1 : fNx key s a m = sD a (fgt a m) s (fgu key s a (fgt a m)) := if_neg c1
      refine q_setDuty hR hW ⟨hg.1, hg.2.1⟩ hs (fun v13 e13 v11 e11 => ?_)
      rw [zl_1, zI_add] at e13
      rw [zl_1, zI_add, show a 0 - ((r + 1 : Nat) : Int) + 1 = a 0 - r by omega] at e11
      subst e13; subst e11
      have ih := q_fillLoop hk hs r (fNx key s a m) (m ||| 2 ^ (fgt a m).toNat) (c + 1) (st σ 2 (dp (fgt a m) s) (zI (fgu key s a (fgt a m) + 1))) hW2 (by rw [e1]; exact RC.sd hR hg.1 hs.1 _) hK hl (by rw [e0]; omega) (by omega) (fun row w1 w2 => by
        have := h row
        rw [show fls key s (r + 1) a m c = fls key s r (fNx key s a m) (m ||| 2 ^ (fgt a m).toNat) (if fgu key s a (fgt a m) = -1 then c else c + 1) from rfl, if_neg c1] at this
        rw [up_up]
        exact this w1 w2)
      rw [e0] at ih
      exact ih
theorem unm_0 {n : Int} (hn : 0 ≤ n) : unm 0 n = n := by
  unfold unm
  have h1 := cn_not (fun k => mb 0 k) hn
  have h2 := cn_cut (p := fun k => mb 0 k) (m := 0) (n := n) (by decide) hn (fun k _ _ => by
    unfold mb
    exact decide_eq_false (by rw [Nat.zero_div]; decide))
  rw [h2, cn_0] at h1
  omega
theorem q_fill {K : Int32 → Mem → Prop} {a : Nat → Int} {σ : Mem} (hR : RC a (σ 2)) (hW : WF a) {s : Int} (hs : 0 ≤ s ∧ s < 28) (h : ∀ row : Nat → Int32, WF (fls (ky a) s (a 0).toNat a 0 0).1 → RC (fls (ky a) s (a 0).toNat a 0 0).1 row → K (zI (fls (ky a) s (a 0).toNat a 0 0).2) (va_up (va_up σ 3 (kyf a (σ 3) 10)) 2 row)) : wp_X2_fill (zI s) σ K := by
  have hc := hW.c
  unfold wp_X2_fill
  refine q_computeOrderKeys hR hW ⟨(a 0).toNat + 1, ?_⟩
  have := q_fillLoop (K := K) (fun u h1 h2 => ky_rng hW ⟨h1, h2⟩) hs (a 0).toNat a 0 0 (va_up σ 3 (kyf a (σ 3) 10)) hW hR (fun j hj => by
    rw [up_e]
    exact if_pos (by omega)) (by decide) (by rw [unm_0 hc.1.1]; omega) (by omega) h
  rw [show a 0 - ((a 0).toNat : Nat) = 0 by omega] at this
  exact this
