/-! filling a slot: the model -/
section F1
variable {a : Nat → Int} {σ : Mem}
def opq (a : Nat → Int) (s : Int) (m : Nat) (k : Int) : Bool := decide (du a k s = -1) && !mb m k
theorem opq_iff {s : Int} {m : Nat} {k : Int} : opq a s m k = true ↔ (du a k s = -1 ∧ mb m k = false) := by
  unfold opq
  rw [Bool.and_eq_true, decide_eq_true_iff]
  cases mb m k <;> simp
def nxg (a : Nat → Int) (s : Int) (m : Nat) : Int := bs (opq a s m) (fun k => a (4 + k.toNat)) (a 0)
def opm (a : Nat → Int) (s : Int) (m : Nat) : Int := cn (opq a s m) (a 0)
theorem rsn_0 {k s u : Int} (h : rsn a k s u = 0) : du a k s = -1 ∧ ¬ a (9 + u.toNat) < a (4 + k.toNat) ∧ off a u s ≠ true ∧ held a u s = -1 ∧ held a u (s - 1) = -1 ∧ held a u (s + 1) = -1 := by
  unfold rsn at h
  by_cases c1 : du a k s ≠ -1
  · rw [if_pos c1] at h; omega
  · rw [if_neg c1] at h
    by_cases c2 : a (9 + u.toNat) < a (4 + k.toNat)
    · rw [if_pos c2] at h; omega
    · rw [if_neg c2] at h
      by_cases c3 : off a u s = true
      · rw [if_pos c3] at h; omega
      · rw [if_neg c3] at h
        by_cases c4 : held a u s ≠ -1
        · rw [if_pos c4] at h; omega
        · rw [if_neg c4] at h
          by_cases c5 : held a u (s - 1) ≠ -1
          · rw [if_pos c5] at h; omega
          · rw [if_neg c5] at h
            by_cases c6 : held a u (s + 1) ≠ -1
            · rw [if_pos c6] at h; omega
            · exact ⟨by omega, c2, c3, by omega, by omega, by omega⟩
theorem m_nextGate {K : Int32 → Mem → Prop} (hG : RG a (σ 26)) (hW : WF a) {m : Nat} (hm : m < 32) {s : Int} (hs : 0 ≤ s ∧ s < 28) (h : K (zI (nxg a s m)) σ) : wp_X5_nextGate (zI s) (Int32.ofNat m) σ K := by
  have hc := hW.c
  unfold wp_X5_nextGate
  have h9 := lpI (F := wpF_X5_nextGate_5 K) (fun i => (zI s, Int32.ofNat m, zI (bs (opq a s m) (fun k => a (4 + k.toNat)) i), zI i, σ)) (fun i => 0 ≤ i) (a 0) (fun B hP => ?_) (fun i B hi hP hB => ?_) 0 (by omega) (by decide)
  · exact h9
  · show wpS_X5_nextGate_5 K B (zI s) (Int32.ofNat m) (zI (nxg a s m)) (zI (a 0)) σ
    unfold wpS_X5_nextGate_5
    rw [hG.1]
    exact br_le (by omega) (by omega) (fun _ => h) (fun c => absurd c (by omega))
  · show wpS_X5_nextGate_5 K B (zI s) (Int32.ofNat m) (zI (bs (opq a s m) (fun k => a (4 + k.toNat)) i)) (zI i) σ
    have hb := bs_rng (opq a s m) (fun k => a (4 + k.toNat)) hP
    have hB2 := hB (by omega)
    rw [bs_s _ _ hP] at hB2
    have hn := hW.2.2.2.2.1 i.toNat (by omega)
    have hd := hW.dq (k := i) (s := s) ⟨hP, by omega⟩ hs
    unfold wpS_X5_nextGate_5 wpJ_X5_nextGate_59 wpJ_X5_nextGate_62
    rw [hG.1]
    refine br_le (by omega) (by omega) (fun c => absurd c (by omega)) (fun _ => ?_)
    refine m_who hG ⟨hP, by omega⟩ hs (br_ge0 (by omega) (fun c v5 e5 => ?_) (fun c => ?_))
    · rw [zl_1, zI_add] at e5
      subst e5
      rw [if_neg (fun x => by have := (opq_iff.1 x.1).1; omega)] at hB2
      exact hB2
    · rw [mb_bit (by omega) (by omega)]
      refine br_n0 (by split <;> omega) (fun c2 => ?_) (fun c2 v5 e5 => ?_)
      · have c3 : mb m i = false := by
          cases h3 : mb m i with
          | false => rfl
          | true => rw [h3, if_pos rfl] at c2; exact absurd c2 (by decide)
        refine br_lt0 (by omega) (fun c4 v5 e5 => ?_) (fun c4 => ?_)
        · rw [zl_1, zI_add] at e5
          subst e5
          rw [if_pos ⟨opq_iff.2 ⟨by omega, c3⟩, Or.inl (by omega)⟩] at hB2
          exact hB2
        · have hn2 := hW.2.2.2.2.1 (bs (opq a s m) (fun k => a (4 + k.toNat)) i).toNat (by omega)
          rw [zl_4, zI_add, zI_add, zI_nat (by omega) (by omega), zI_nat (by omega) (by omega), show (4 + i).toNat = 4 + i.toNat by omega, show (4 + bs (opq a s m) (fun k => a (4 + k.toNat)) i).toNat = 4 + (bs (opq a s m) (fun k => a (4 + k.toNat)) i).toNat by omega, hG.2.2.2.2.1 _ (by omega), hG.2.2.2.2.1 _ (by omega)]
          refine ⟨zI_in (by omega) (by omega) (by decide), zI_in (by omega) (by omega) (by decide), br_le (by omega) (by omega) (fun c5 v5 e5 => ?_) (fun c5 v5 e5 => ?_)⟩
          · rw [zl_1, zI_add] at e5
            subst e5
            rw [if_neg (fun x => x.2.elim (by omega) (by omega))] at hB2
            exact hB2
          · rw [zl_1, zI_add] at e5
            subst e5
            rw [if_pos ⟨opq_iff.2 ⟨by omega, c3⟩, Or.inr c5⟩] at hB2
            exact hB2
      · have c3 : mb m i = true := by
          cases h3 : mb m i with
          | true => rfl
          | false => rw [h3, if_neg (by decide)] at c2; exact absurd rfl c2
        rw [zl_1, zI_add] at e5
        subst e5
        rw [if_neg (fun x => by have := (opq_iff.1 x.1).2; rw [c3] at this; exact absurd this (by decide))] at hB2
        exact hB2
theorem m_chosen {K : Int32 → Mem → Prop} (hG : RG a (σ 26)) (hW : WF a) {g s : Int} (hg : 0 ≤ g ∧ g < a 0) (hs : 0 ≤ s ∧ s < 28) (h : ∀ x : Int32, K (zI (fgu (ky a) s a g)) (st σ 25 16 x)) : wp_X5_chosen (zI g) (zI s) σ K := by
  have hc := hW.c
  unfold wp_X5_chosen
  have h9 := lpI (F := wpF_X5_chosen_5 K) (fun i => (zI g, zI s, zI (bs (fun u => decide (rsn a g s u = 0)) (fun u => - ky a u) i), zI i, st σ 25 16 (if i = 0 then σ 25 16 else zI (dtl a g s (i - 1))))) (fun i => 0 ≤ i) (a 1) (fun B hP => ?_) (fun i B hi hP hB => ?_) 0 (by omega) (by decide)
  · rw [if_pos rfl, st_s] at h9
    exact h9
  · show wpS_X5_chosen_5 K B (zI g) (zI s) (zI (fgu (ky a) s a g)) (zI (a 1)) (st σ 25 16 (if a 1 = 0 then σ 25 16 else zI (dtl a g s (a 1 - 1))))
    unfold wpS_X5_chosen_5
    rw [show st σ 25 16 (if a 1 = 0 then σ 25 16 else zI (dtl a g s (a 1 - 1))) 26 = σ 26 from rfl, hG.2.1]
    exact br_le (by omega) (by omega) (fun _ => h _) (fun c => absurd c (by omega))
  · show wpS_X5_chosen_5 K B (zI g) (zI s) (zI (bs (fun u => decide (rsn a g s u = 0)) (fun u => - ky a u) i)) (zI i) (st σ 25 16 (if i = 0 then σ 25 16 else zI (dtl a g s (i - 1))))
    have hb := bs_rng (fun u => decide (rsn a g s u = 0)) (fun u => - ky a u) hP
    have hB2 := hB (by omega)
    rw [bs_s _ _ hP, if_neg (show ¬ i + 1 = 0 by omega), show i + 1 - 1 = i by omega] at hB2
    have hr := rsn_rng a g s i
    unfold wpS_X5_chosen_5 wpJ_X5_chosen_41 wpJ_X5_chosen_44
    generalize (if i = 0 then σ 25 16 else zI (dtl a g s (i - 1))) = y
    rw [show st σ 25 16 y 26 = σ 26 from rfl, hG.2.1]
    refine br_le (by omega) (by omega) (fun c => absurd c (by omega)) (fun _ => ?_)
    refine m_refuses (σ := st σ 25 16 y) hG hW hg hs ⟨hP, hi⟩ ?_
    rw [st_st]
    refine br_n0 (by omega) (fun c => ?_) (fun c v5 e5 => ?_)
    · refine br_lt0 (by omega) (fun c4 v5 e5 => ?_) (fun c4 => ?_)
      · rw [zl_1, zI_add] at e5
        subst e5
        rw [if_pos ⟨decide_eq_true c, Or.inl (by omega)⟩] at hB2
        exact hB2
      · refine m_isAhead (σ := st σ 25 16 _) hG hW ⟨hP, hi⟩ ⟨c4, by omega⟩ ?_
        by_cases c5 : ky a i < ky a (bs (fun u => decide (rsn a g s u = 0)) (fun u => - ky a u) i)
        · rw [if_pos c5]
          refine one_ne (fun v5 e5 => ?_)
          rw [zl_1, zI_add] at e5
          subst e5
          rw [if_pos ⟨decide_eq_true c, Or.inr (by omega)⟩] at hB2
          exact hB2
        · rw [if_neg c5]
          refine zero_eq (fun v5 e5 => ?_)
          rw [zl_1, zI_add] at e5
          subst e5
          rw [if_neg (fun x => x.2.elim (by omega) (by omega))] at hB2
          exact hB2
    · rw [zl_1, zI_add] at e5
      subst e5
      rw [if_neg (fun x => c (of_decide_eq_true x.1))] at hB2
      exact hB2
end F1
theorem held_sD {a : Nat → Int} {g s u v : Int} (hg : 0 ≤ g ∧ g < 5) (hs : 0 ≤ s ∧ s < 28) (hv : 0 ≤ v) (h0 : du a g s = -1) (h : held (sD a g s u) v s = -1) : v ≠ u ∧ held a v s = -1 := by
  rw [held_in hv hs.1 hs.2] at h
  have hn := fs_none _ h
  have e : ∀ k, 0 ≤ k → k < 5 → du (sD a g s u) k s ≠ v := fun k k1 k2 => of_decide_eq_false (hn k k1 k2)
  have e1 := e g hg.1 hg.2
  rw [du_sD hg.1 hs hg.1 hs, if_pos ⟨rfl, rfl⟩] at e1
  refine ⟨fun c => e1 c.symm, ?_⟩
  rw [held_in hv hs.1 hs.2]
  refine fs_zero (by decide) (fun k k1 k2 => decide_eq_false ?_)
  by_cases c : k = g
  · rw [c, h0]; omega
  · have := e k k1 k2
    rwa [du_sD hg.1 hs k1 hs, if_neg (fun x => c x.1)] at this
theorem dts_sD {a : Nat → Int} {g s u v : Int} (hg : 0 ≤ g ∧ g < 5) (hs : 0 ≤ s ∧ s < 28) (hv : 0 ≤ v) (hu : v ≠ u) (h0 : du a g s = -1) : dts (sD a g s u) v = dts a v := by
  unfold dts
  refine cn_cong (fun j j1 j2 => ?_)
  by_cases c : (39 + j).toNat = dp g s
  · rw [c, show sD a g s u (dp g s) = u from iu_e _ _ _, show a (dp g s) = -1 from h0, decide_eq_false (show ¬ u = v by omega), decide_eq_false (show ¬ (-1 : Int) = v by omega)]
  · rw [show sD a g s u (39 + j).toNat = a (39 + j).toNat from iu_j _ _ c]
theorem ky_sD {a : Nat → Int} {g s u v : Int} (hg : 0 ≤ g ∧ g < 5) (hs : 0 ≤ s ∧ s < 28) (hv : 0 ≤ v ∧ v < 10) (hu : v ≠ u) (h0 : du a g s = -1) : ky (sD a g s u) v = ky a v := by
  unfold ky rk
  rw [dts_sD hg hs hv.1 hu h0, sD_0 hg.1 hs.1 _ (by decide), sD_0 hg.1 hs.1 _ (by omega)]
theorem st_i26b (X : Mem) (i p : Nat) (x u y : Int32) (row : Nat → Int32) : va_up (st (st (st X 25 i x) 26 p u) 25 i y) 26 row = va_up (st X 25 i y) 26 row := by
  rw [← st_i26, st_st, up_up]
theorem m_fillLoop {K : Int32 → Mem → Prop} {key : Int → Int} {s : Int} (hs : 0 ≤ s ∧ s < 28) : ∀ (r : Nat) (a : Nat → Int) (m p : Nat) (c : Int) (σ : Mem), WF a → RG a (σ 26) → m < 32 → p < 32 → unm m (a 0) = r → (0 ≤ c ∧ c + r ≤ 5) → (∀ k, 0 ≤ k → k < a 0 → du a k s = -1 → mb m k = mb p k) → (∀ u, 0 ≤ u → u < a 1 → held a u s = -1 → ky a u = key u) →
    (∀ (x : Int32) (row : Nat → Int32), WF (fls key s r a m c).1 → RG (fls key s r a m c).1 row → K (zI (fls key s r a m c).2) (va_up (st σ 25 16 x) 26 row)) → wlp (wpF_X5_fillSlot_55 K) ((opm a s p).toNat + 1) (zI s, Int32.ofNat p, zI c, zI (nxg a s p), σ)
  | 0, a, m, p, c, σ, hW, hG, hm, hp, hu, hcr, hrel, hkey, h => by
    have hc := hW.c
    have e : nxg a s p = -1 := by
      refine bs_no hc.1.1 (fun i i1 i2 => ?_)
      cases e : opq a s p i with
      | false => rfl
      | true =>
        have e2 := opq_iff.1 e
        have := cn_ge1 (p := fun k => !mb m k) i1 i2 (by
          show (!mb m i) = true
          rw [hrel i i1 i2 e2.1, e2.2]; rfl)
        unfold unm at hu
        omega
    rw [e]
    show wpS_X5_fillSlot_55 K _ (zI s) (Int32.ofNat p) (zI c) (zI (-1)) σ
    have := h (σ 25 16) (σ 26) hW hG
    rw [st_s, up_s] at this
    exact ⟨fun _ => this, fun c => absurd (by decide) c⟩
  | r + 1, a, m, p, c, σ, hW, hG, hm, hp, hu, hcr, hrel, hkey, h => by
    have hc := hW.c
    have hg := fgt_ok hW (m := m) (r := r) (by omega)
    have hu2 := fgu_rng (key := key) (s := s) (g := fgt a m) hW
    have hus := unm_s hm hc.1 ⟨hg.1, hg.2.1⟩ hg.2.2
    have e0 : fNx key s a m 0 = a 0 := fNx_0 hW hs.1 (m := m) (r := r) (by omega) (by decide)
    have e9 : fNx key s a m 1 = a 1 := fNx_0 hW hs.1 (m := m) (r := r) (by omega) (by decide)
    have hW2 := fNx_W (key := key) hW hs (m := m) (r := r) (by omega)
    have hl := mb_lt hm (g := fgt a m) (by omega)
    have hlp := mb_lt hp (g := fgt a m) (by omega)
    by_cases o : du a (fgt a m) s = -1
    · have hpg : mb p (fgt a m) = false := by rw [← hrel _ hg.1 hg.2.1 o]; exact hg.2.2
      have en : nxg a s p = fgt a m := bs_sub (q := fun k => !mb m k) (p := opq a s p) hc.1.1 (fun i i1 i2 i3 => by
        have e2 := opq_iff.1 i3
        show (!mb m i) = true
        rw [hrel i i1 i2 e2.1, e2.2]; rfl) (by show fgt a m ≠ -1; omega) (opq_iff.2 ⟨o, hpg⟩)
      have ef : fgu (ky a) s a (fgt a m) = fgu key s a (fgt a m) := bs_cong hc.2.1.1 (fun _ _ _ => rfl) (fun i i1 i2 i3 => by
        rw [hkey i i1 i2 (rsn_0 (of_decide_eq_true i3)).2.2.2.1])
      have hdu : ∀ k, 0 ≤ k → k ≠ fgt a m → du (fNx key s a m) k s = du a k s := fun k k1 k2 => by
        unfold fNx
        split
        · rfl
        · rw [du_sD hg.1 hs k1 hs, if_neg (fun x => k2 x.1)]
      have eo : opm a s p = opm (fNx key s a m) s (p ||| 2 ^ (fgt a m).toNat) + 1 := by
        unfold opm
        rw [e0, ← cn_one (g := fgt a m) (n := a 0) ⟨hg.1, hg.2.1⟩]
        refine cn_or hc.1.1 (fun i i1 i2 => ?_)
        rw [opq_iff, opq_iff, decide_eq_true_iff, mb_or hp (by omega) (by omega)]
        by_cases z : i = fgt a m
        · subst z; simp [o, hpg]
        · simp [z, hdu i i1 z]
      have h0 := cn_rng (opq (fNx key s a m) s (p ||| 2 ^ (fgt a m).toNat)) (k := a 0) hc.1.1
      have h0' : 0 ≤ opm (fNx key s a m) s (p ||| 2 ^ (fgt a m).toNat) := by unfold opm; rw [e0]; exact h0.1
      rw [en, eo, show (opm (fNx key s a m) s (p ||| 2 ^ (fgt a m).toNat) + 1).toNat + 1 = ((opm (fNx key s a m) s (p ||| 2 ^ (fgt a m).toNat)).toNat + 1) + 1 by omega]
      show wpS_X5_fillSlot_55 K (wlp (wpF_X5_fillSlot_55 K) ((opm (fNx key s a m) s (p ||| 2 ^ (fgt a m).toNat)).toNat + 1)) (zI s) (Int32.ofNat p) (zI c) (zI (fgt a m)) σ
      have hrel2 : ∀ k, 0 ≤ k → k < a 0 → du (fNx key s a m) k s = -1 → mb (m ||| 2 ^ (fgt a m).toNat) k = mb (p ||| 2 ^ (fgt a m).toNat) k := fun k k1 k2 k3 => by
        rw [mb_or hm (by omega) (by omega), mb_or hp (by omega) (by omega)]
        by_cases z : k = fgt a m
        · rw [if_pos z, if_pos z]
        · rw [if_neg z, if_neg z]
          rw [hdu k k1 z] at k3
          exact hrel k k1 k2 k3
      unfold wpS_X5_fillSlot_55 wpJ_X5_fillSlot_86
      refine br_lt0 (by omega) (fun c => absurd c (by omega)) (fun _ => ?_)
      refine m_chosen hG hW ⟨hg.1, hg.2.1⟩ hs (fun x => ?_)
      rw [ef]
      refine br_lt0 (by omega) (fun c1 v15 e15 => ?_) (fun c1 => ?_)
      · have c2 : fgu key s a (fgt a m) = -1 := by omega
        have e1 : fNx key s a m = a := if_pos c2
        rw [zI_t hg.1, sh_2 _ (by omega), i_or] at e15
        subst e15
        rw [e1] at hrel2 ⊢
        refine m_nextGate (σ := st σ 25 16 x) hG hW hlp hs ?_
        refine m_fillLoop (key := key) hs r a (m ||| 2 ^ (fgt a m).toNat) (p ||| 2 ^ (fgt a m).toNat) c (st σ 25 16 x) hW hG hl hlp (by omega) (by omega) hrel2 hkey (fun y row w1 w2 => ?_)
        have := h y row
        rw [show fls key s (r + 1) a m c = fls key s r (fNx key s a m) (m ||| 2 ^ (fgt a m).toNat) (if fgu key s a (fgt a m) = -1 then c else c + 1) from rfl, e1, if_pos c2] at this
        rw [st_st]
        exact this w1 w2
      · have c2 : ¬ fgu key s a (fgt a m) = -1 := by omega
        have e1 : fNx key s a m = sD a (fgt a m) s (fgu key s a (fgt a m)) := if_neg c2
        refine m_puts ⟨hg.1, by omega⟩ hs (fun v19 e19 v15 e15 => ?_)
        rw [zI_t hg.1, sh_2 _ (by omega), i_or] at e15
        rw [zl_1, zI_add] at e19
        subst e15; subst e19
        have hG2 : RG (fNx key s a m) (upd (σ 26) (dp (fgt a m) s) (zI (fgu key s a (fgt a m)))) := by rw [e1]; exact RG.sd hG hg.1 hs.1 _
        refine m_nextGate (σ := st (st σ 25 16 x) 26 (dp (fgt a m) s) (zI (fgu key s a (fgt a m)))) hG2 hW2 hlp hs ?_
        refine m_fillLoop (key := key) hs r (fNx key s a m) (m ||| 2 ^ (fgt a m).toNat) (p ||| 2 ^ (fgt a m).toNat) (c + 1) (st (st σ 25 16 x) 26 (dp (fgt a m) s) (zI (fgu key s a (fgt a m)))) hW2 hG2 hl hlp (by rw [e0]; omega) (by omega) (by rw [e0]; exact hrel2) (fun v v1 v2 v3 => ?_) (fun y row w1 w2 => ?_)
        · rw [e9] at v2
          rw [e1] at v3 ⊢
          have hv := held_sD ⟨hg.1, by omega⟩ hs v1 o v3
          rw [ky_sD ⟨hg.1, by omega⟩ hs ⟨v1, by omega⟩ hv.1 o]
          exact hkey v v1 v2 hv.2
        · have := h y row
          rw [show fls key s (r + 1) a m c = fls key s r (fNx key s a m) (m ||| 2 ^ (fgt a m).toNat) (if fgu key s a (fgt a m) = -1 then c else c + 1) from rfl, if_neg c2] at this
          rw [st_i26b]
          exact this w1 w2
    · have c2 : fgu key s a (fgt a m) = -1 := bs_no hc.2.1.1 (fun i i1 i2 => decide_eq_false (fun z => o (rsn_0 z).1))
      have e1 : fNx key s a m = a := if_pos c2
      refine m_fillLoop (key := key) hs r a (m ||| 2 ^ (fgt a m).toNat) p c σ hW hG hl hp (by omega) (by omega) (fun k k1 k2 k3 => ?_) hkey (fun y row w1 w2 => ?_)
      · rw [mb_or hm (by omega) (by omega), if_neg (fun z => o (by rw [← z]; exact k3))]
        exact hrel k k1 k2 k3
      · have := h y row
        rw [show fls key s (r + 1) a m c = fls key s r (fNx key s a m) (m ||| 2 ^ (fgt a m).toNat) (if fgu key s a (fgt a m) = -1 then c else c + 1) from rfl, e1, if_pos c2] at this
        exact this w1 w2
theorem m_fillSlot {K : Int32 → Mem → Prop} {a : Nat → Int} {σ : Mem} (hG : RG a (σ 26)) (hW : WF a) {m : Int} (hw : σ 25 6 = 0) (hm : σ 25 5 = zI m) (hm1 : 0 ≤ m ∧ m ≤ 8) {s : Int} (hs : -2147483648 ≤ s ∧ s < 2147483648) (h1 : ¬ (0 ≤ s ∧ s < 28) → K 0 (st σ 25 7 1)) (h2 : (0 ≤ s ∧ s < 28) → s < a 3 → K 0 (st σ 25 7 2))
    (h0 : (0 ≤ s ∧ s < 28) → a 3 ≤ s → ∀ f : Nat → Int32, KP m f (σ 27) (σ 26) → ∀ (x : Int32) (row : Nat → Int32), WF (fls (ky a) s (a 0).toNat a 0 0).1 → RG (fls (ky a) s (a 0).toNat a 0 0).1 row → K (zI (fls (ky a) s (a 0).toNat a 0 0).2) (va_up (st (st (va_up (st (st σ 25 7 0) 25 7 0) 27 f) 25 5 (zI (if m + 1 < 8 then m + 1 else 8))) 25 16 x) 26 row)) : wp_X5_fillSlot (zI s) σ K := by
  have hc := hW.c
  unfold wp_X5_fillSlot wpJ_X5_fillSlot_27
  refine m_isSlot hs (fun c1 c2 => one_ne' ?_) (fun c => zero_eq' (m_f1 (n := 1) (by decide) (one_ne (h1 c))))
  rw [hG.2.2.1]
  refine br_le (by omega) (by omega) (fun c3 => m_f0 (zero_eq ?_)) (fun c => m_f1 (n := 2) (by decide) (one_ne (h2 ⟨c1, c2⟩ c)))
  refine m_keeps_26 (σ := st σ 25 7 0) hw hm hm1 (fun f hf => ?_)
  refine m_nextGate (σ := st (va_up (st (st σ 25 7 0) 25 7 0) 27 f) 25 5 _) (m := 0) hG hW (by decide) ⟨c1, c2⟩ ⟨(opm a s 0).toNat + 1, ?_⟩
  exact m_fillLoop (key := ky a) ⟨c1, c2⟩ (a 0).toNat a 0 0 0 (st (va_up (st (st σ 25 7 0) 25 7 0) 27 f) 25 5 _) hW hG (by decide) (by decide) (by rw [unm_0 hc.1.1]; omega) (by omega) (fun _ _ _ _ => rfl) (fun _ _ _ _ => rfl) (h0 ⟨c1, c2⟩ c3 f hf)
theorem o_11 {σ : Mem} (hI : Inv σ) (a1 a2 a3 a4 : Int32) : wplc_11 a1 a2 a3 a4 σ Inv := by
  obtain ⟨⟨a, hW, hR, hG⟩, hX⟩ := hI
  have hc := hW.c
  obtain ⟨n, m, hn, hm, e1, e2, e3, hs9⟩ := id hX.1
  obtain ⟨s, rfl, hs⟩ := zI_ex a1
  unfold wplc_11 wp_L_fillSlot wp_X4_fillSlot wp_X4_problemOfFilling
  refine q_isSlot hs.1 hs.2 (fun c1 c2 => one_ne' ?_) (fun c => zero_eq' (tf1 (Or.inl ⟨rfl, ?_⟩)))
  · refine q_hasPassed hR hW hs.1 hs.2 (fun c => one_ne (tf3 (Or.inr ⟨rfl, ?_⟩))) (fun c => zero_eq (tf0 ?_))
    · exact m_fillSlot hG hW hX.2.2.1 e3 hm hs (fun h => absurd ⟨c1, c2⟩ h) (fun _ _ => fin_i rfl (fun c => absurd c (by decide)) ⟨⟨a, hW, hR, hG⟩, hX⟩) (fun _ h => absurd h (by omega))
    · refine q_keep e1 hn e2 hm ?_
      refine q_fill (σ := st (st (wr σ (Rn σ n.toNat)) 4 1 _) 4 2 _) hR hW ⟨c1, c2⟩ (fun row hW2 hR2 σ4 e => ?_)
      subst e
      refine m_fillSlot (σ := st (va_up (va_up (st (st (wr σ (Rn σ n.toNat)) 4 1 _) 4 2 _) 3 _) 2 row) 34 0 _) hG hW hX.2.2.1 e3 hm hs (fun h => absurd ⟨c1, c2⟩ h) (fun _ h => absurd h (by omega)) (fun _ _ f hf x row2 _ hG2 => ?_)
      exact fin_i rfl (fun _ => rfl) ⟨⟨_, hW2, hR2, hG2⟩, HS_push hn hm hs9 hW hR hG hf (ring_wr ⟨rfl, rfl, rfl, rfl, rfl, rfl, rfl, rfl, rfl⟩), hX.2⟩
  · exact m_fillSlot hG hW hX.2.2.1 e3 hm hs (fun _ => fin_i rfl (fun c => absurd c (by decide)) ⟨⟨a, hW, hR, hG⟩, hX⟩) (fun h => absurd h c) (fun h => absurd h c)
