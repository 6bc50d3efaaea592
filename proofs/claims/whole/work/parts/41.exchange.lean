/-! exchange -/
theorem st_i26 (X : Mem) (i j : Nat) (v w : Int32) : st (st X 25 i v) 26 j w = st (st X 26 j w) 25 i v := by
  funext c
  by_cases h : c = 26
  · subst h
    rw [st_c (st X 26 j w) i v (show (26 : Nat) ≠ 25 by decide)]
    rfl
  · by_cases h2 : c = 25
    · subst h2
      rw [st_c (st X 25 i v) j w h]
      rfl
    · rw [st_c _ _ _ h, st_c _ _ _ h2, st_c _ _ _ h2, st_c _ _ _ h]
theorem st_i2 (X : Mem) (i j : Nat) (v w : Int32) : st (st X 0 i v) 2 j w = st (st X 2 j w) 0 i v := by
  funext c
  by_cases h : c = 2
  · subst h
    rw [st_c (st X 2 j w) i v (show (2 : Nat) ≠ 0 by decide)]
    rfl
  · by_cases h2 : c = 0
    · subst h2
      rw [st_c (st X 0 i v) j w h]
      rfl
    · rw [st_c _ _ _ h, st_c _ _ _ h2, st_c _ _ _ h2, st_c _ _ _ h]
theorem upd_4 (c : Nat → Int32) {p q : Nat} {x y v w : Int32} (h1 : c p = v) (h2 : c q = w) : upd (upd (upd (upd c p x) q y) p v) q w = c := by
  funext i
  unfold upd
  by_cases e : i = q
  · rw [if_pos e, e, h2]
  · rw [if_neg e]
    by_cases e2 : i = p
    · rw [if_pos e2, e2, h1]
    · rw [if_neg e2, if_neg e, if_neg e2]
theorem upd_5 (c : Nat → Int32) {p q : Nat} {x y z v w : Int32} (h1 : c p = v) (h2 : c q = w) : upd (upd (upd (upd (upd c p x) q y) p z) p v) q w = c := by
  rw [fa_upd2, upd_4 c h1 h2]
theorem st2_26 (σ : Mem) (i j : Nat) (v w : Int32) : st (st σ 26 i v) 26 j w = va_up σ 26 (upd (upd (σ 26) i v) j w) := st_u σ 26 (upd (σ 26) i v) j w
theorem st2_2 (σ : Mem) (i j : Nat) (v w : Int32) : st (st σ 2 i v) 2 j w = va_up σ 2 (upd (upd (σ 2) i v) j w) := st_u σ 2 (upd (σ 2) i v) j w
section X0
variable {a : Nat → Int} {σ : Mem}
def xb (a : Nat → Int) (k s p q : Int) : Nat → Int := sD (sD a k s (-1)) p q (-1)
def xr (a : Nat → Int) (k s p q : Int) : Int := if rsn (xb a k s p q) k s (du a p q) ≠ 0 then rsn (xb a k s p q) k s (du a p q) else rsn (sD (xb a k s p q) k s (du a p q)) p q (du a k s)
def xd (a : Nat → Int) (k s p q : Int) : Int := if rsn (xb a k s p q) k s (du a p q) ≠ 0 then dtl (xb a k s p q) k s (du a p q) else dtl (sD (xb a k s p q) k s (du a p q)) p q (du a k s)
theorem xr_rng (a : Nat → Int) (k s p q : Int) : 0 ≤ xr a k s p q ∧ xr a k s p q ≤ 6 := by
  have h1 := rsn_rng (xb a k s p q) k s (du a p q)
  have h2 := rsn_rng (sD (xb a k s p q) k s (du a p q)) p q (du a k s)
  unfold xr
  split <;> omega
theorem q_isExchangeRefused {K : Int32 → Mem → Prop} (hR : RC a (σ 2)) (hW : WF a) {k s p q : Int} (hk : 0 ≤ k ∧ k < a 0) (hs : 0 ≤ s ∧ s < 28) (hp : 0 ≤ p ∧ p < a 0) (hq : 0 ≤ q ∧ q < 28) (hu : du a k s ≠ -1) (hv : du a p q ≠ -1)
    (h0 : xr a k s p q = 0 → K 0 σ) (h1 : xr a k s p q ≠ 0 → K 1 (st (st σ 0 8 (zI (xr a k s p q))) 0 9 (zI (xd a k s p q)))) : wp_X4_isExchangeRefused (zI k) (zI s) (zI p) (zI q) σ K := by
  have hc := hW.c
  have d1 := hW.dq (k := k) (s := s) ⟨hk.1, by omega⟩ hs
  have d2 := hW.dq (k := p) (s := q) ⟨hp.1, by omega⟩ hq
  have e1 : σ 2 (dp k s) = zI (du a k s + 1) := hR.dq ⟨hk.1, by omega⟩ hs
  have e2 : σ 2 (dp p q) = zI (du a p q + 1) := hR.dq ⟨hp.1, by omega⟩ hq
  have R1 : RC (xb a k s p q) (upd (upd (σ 2) (dp k s) (zI (-1 + 1))) (dp p q) (zI (-1 + 1))) := RC.sd (RC.sd hR hk.1 hs.1 (-1)) hp.1 hq.1 (-1)
  have W0 : WF (sD a k s (-1)) := WF_duty hW hk hs ⟨by omega, by omega⟩
  have W1 : WF (xb a k s p q) := WF_duty W0 ⟨hp.1, by rw [sD_0 hk.1 hs.1 _ (by decide)]; exact hp.2⟩ hq ⟨by omega, by show (-1 : Int) < sD a k s (-1) 1; rw [sD_0 hk.1 hs.1 _ (by decide)]; omega⟩
  have c0 : xb a k s p q 0 = a 0 := by unfold xb; rw [sD_0 hp.1 hq.1 _ (by decide), sD_0 hk.1 hs.1 _ (by decide)]
  have c1 : xb a k s p q 1 = a 1 := by unfold xb; rw [sD_0 hp.1 hq.1 _ (by decide), sD_0 hk.1 hs.1 _ (by decide)]
  unfold wp_X4_isExchangeRefused wpJ_X4_isExchangeRefused_81
  refine q_guardOn hR hW hk.1 hk.2 hs.1 hs.2 (q_guardOn hR hW hp.1 hp.2 hq.1 hq.2 ?_)
  rw [zl_m1]
  refine q_setDuty (u := -1) hR hW hk hs ?_
  refine q_setDuty (σ := st σ 2 (dp k s) (zI (-1 + 1))) (u := -1) (RC.sd hR hk.1 hs.1 (-1)) W0 ⟨hp.1, by rw [sD_0 hk.1 hs.1 _ (by decide)]; exact hp.2⟩ hq ?_
  refine q_isRefused (σ := st (st σ 2 (dp k s) (zI (-1 + 1))) 2 (dp p q) (zI (-1 + 1))) R1 W1 ⟨hk.1, by omega⟩ hs ⟨by omega, by omega⟩ (fun c => zero_eq' ?_) (fun c => one_ne' ?_)
  · have R2 := RC.sd R1 hk.1 hs.1 (du a p q)
    have W2 : WF (sD (xb a k s p q) k s (du a p q)) := WF_duty W1 ⟨hk.1, by omega⟩ hs ⟨by omega, by omega⟩
    have c3 : sD (xb a k s p q) k s (du a p q) 0 = a 0 := by rw [sD_0 hk.1 hs.1 _ (by decide), c0]
    have c4 : sD (xb a k s p q) k s (du a p q) 1 = a 1 := by rw [sD_0 hk.1 hs.1 _ (by decide), c1]
    have x1 : xr a k s p q = rsn (sD (xb a k s p q) k s (du a p q)) p q (du a k s) := if_neg (by omega)
    have x2 : xd a k s p q = dtl (sD (xb a k s p q) k s (du a p q)) p q (du a k s) := if_neg (by omega)
    refine q_setDuty (σ := st (st σ 2 (dp k s) (zI (-1 + 1))) 2 (dp p q) (zI (-1 + 1))) R1 W1 ⟨hk.1, by omega⟩ hs ?_
    refine q_isRefused (σ := st (st (st σ 2 (dp k s) (zI (-1 + 1))) 2 (dp p q) (zI (-1 + 1))) 2 (dp k s) (zI (du a p q + 1))) R2 W2 ⟨hp.1, by omega⟩ hq ⟨by omega, by omega⟩ (fun c9 => ?_) (fun c9 => ?_)
    · refine q_setDuty (σ := st (st (st σ 2 (dp k s) (zI (-1 + 1))) 2 (dp p q) (zI (-1 + 1))) 2 (dp k s) (zI (du a p q + 1))) R2 W2 ⟨hk.1, by omega⟩ hs ?_
      refine q_setDuty (σ := st (st (st (st σ 2 (dp k s) (zI (-1 + 1))) 2 (dp p q) (zI (-1 + 1))) 2 (dp k s) (zI (du a p q + 1))) 2 (dp k s) (zI (du a k s + 1))) (RC.sd R2 hk.1 hs.1 (du a k s)) (WF_duty W2 ⟨hk.1, by omega⟩ hs ⟨by omega, by omega⟩) ⟨hp.1, by rw [sD_0 hk.1 hs.1 _ (by decide)]; omega⟩ hq ?_
      refine ⟨rfl, ?_⟩
      simp only [st2_2, st_u]
      rw [upd_5 _ e1 e2, up_s]
      exact h0 (by omega)
    · refine q_setDuty (σ := st (st (st (st (st σ 2 (dp k s) (zI (-1 + 1))) 2 (dp p q) (zI (-1 + 1))) 2 (dp k s) (zI (du a p q + 1))) 0 8 (zI (rsn (sD (xb a k s p q) k s (du a p q)) p q (du a k s)))) 0 9 (zI (dtl (sD (xb a k s p q) k s (du a p q)) p q (du a k s)))) R2 W2 ⟨hk.1, by omega⟩ hs ?_
      refine q_setDuty (σ := st (st (st (st (st (st σ 2 (dp k s) (zI (-1 + 1))) 2 (dp p q) (zI (-1 + 1))) 2 (dp k s) (zI (du a p q + 1))) 0 8 (zI (rsn (sD (xb a k s p q) k s (du a p q)) p q (du a k s)))) 0 9 (zI (dtl (sD (xb a k s p q) k s (du a p q)) p q (du a k s)))) 2 (dp k s) (zI (du a k s + 1))) (RC.sd R2 hk.1 hs.1 (du a k s)) (WF_duty W2 ⟨hk.1, by omega⟩ hs ⟨by omega, by omega⟩) ⟨hp.1, by rw [sD_0 hk.1 hs.1 _ (by decide)]; omega⟩ hq ?_
      refine ⟨rfl, ?_⟩
      simp only [st_i2, st2_2, st_u]
      rw [upd_5 _ e1 e2, up_s, ← x1, ← x2]
      exact h1 (by omega)
  · have x1 : xr a k s p q = rsn (xb a k s p q) k s (du a p q) := if_pos (by omega)
    have x2 : xd a k s p q = dtl (xb a k s p q) k s (du a p q) := if_pos (by omega)
    refine q_setDuty (σ := st (st (st (st σ 2 (dp k s) (zI (-1 + 1))) 2 (dp p q) (zI (-1 + 1))) 0 8 (zI (rsn (xb a k s p q) k s (du a p q)))) 0 9 (zI (dtl (xb a k s p q) k s (du a p q)))) R1 W1 ⟨hk.1, by omega⟩ hs ?_
    refine q_setDuty (σ := st (st (st (st (st σ 2 (dp k s) (zI (-1 + 1))) 2 (dp p q) (zI (-1 + 1))) 0 8 (zI (rsn (xb a k s p q) k s (du a p q)))) 0 9 (zI (dtl (xb a k s p q) k s (du a p q)))) 2 (dp k s) (zI (du a k s + 1))) (RC.sd R1 hk.1 hs.1 (du a k s)) (WF_duty W1 ⟨hk.1, by omega⟩ hs ⟨by omega, by omega⟩) ⟨hp.1, by rw [sD_0 hk.1 hs.1 _ (by decide)]; omega⟩ hq ?_
    refine ⟨rfl, ?_⟩
    simp only [st_i2, st2_2, st_u]
    rw [upd_4 _ e1 e2, up_s, ← x1, ← x2]
    exact h1 (by omega)
theorem q_problemOfExchange {K : Int32 → Mem → Prop} (hR : RC a (σ 2)) (hW : WF a) {k s p q : Int} (hk : -2147483648 ≤ k ∧ k < 2147483648) (hs : -2147483648 ≤ s ∧ s < 2147483648) (hp : -2147483648 ≤ p ∧ p < 2147483648) (hq : -2147483648 ≤ q ∧ q < 2147483648)
    (h1 : ¬ ((0 ≤ k ∧ k < a 0) ∧ (0 ≤ s ∧ s < 28) ∧ (0 ≤ p ∧ p < a 0) ∧ (0 ≤ q ∧ q < 28)) → K 1 σ)
    (h2 : (0 ≤ k ∧ k < a 0) → (0 ≤ s ∧ s < 28) → (0 ≤ p ∧ p < a 0) → (0 ≤ q ∧ q < 28) → (k = p ∧ s = q) → K 2 σ)
    (h3 : (0 ≤ k ∧ k < a 0) → (0 ≤ s ∧ s < 28) → (0 ≤ p ∧ p < a 0) → (0 ≤ q ∧ q < 28) → ¬ (k = p ∧ s = q) → (s < a 3 ∨ q < a 3) → K 3 σ)
    (h4 : (0 ≤ k ∧ k < a 0) → (0 ≤ s ∧ s < 28) → (0 ≤ p ∧ p < a 0) → (0 ≤ q ∧ q < 28) → ¬ (k = p ∧ s = q) → (a 3 ≤ s ∧ a 3 ≤ q) → (du a k s = -1 ∨ du a p q = -1) → K 4 σ)
    (h0 : (0 ≤ k ∧ k < a 0) → (0 ≤ s ∧ s < 28) → (0 ≤ p ∧ p < a 0) → (0 ≤ q ∧ q < 28) → ¬ (k = p ∧ s = q) → (a 3 ≤ s ∧ a 3 ≤ q) → (du a k s ≠ -1 ∧ du a p q ≠ -1) → xr a k s p q = 0 → K 0 σ)
    (h5 : (0 ≤ k ∧ k < a 0) → (0 ≤ s ∧ s < 28) → (0 ≤ p ∧ p < a 0) → (0 ≤ q ∧ q < 28) → ¬ (k = p ∧ s = q) → (a 3 ≤ s ∧ a 3 ≤ q) → (du a k s ≠ -1 ∧ du a p q ≠ -1) → xr a k s p q ≠ 0 → K 5 (st (st σ 0 8 (zI (xr a k s p q))) 0 9 (zI (xd a k s p q)))) : wp_X4_problemOfExchange (zI k) (zI s) (zI p) (zI q) σ K := by
  have hc := hW.c
  have hJ : (0 ≤ k ∧ k < a 0) → (0 ≤ s ∧ s < 28) → (0 ≤ p ∧ p < a 0) → (0 ≤ q ∧ q < 28) → ¬ (k = p ∧ s = q) → wpJ_X4_problemOfExchange_60 K (zI k) (zI s) (zI p) (zI q) σ := by
    intro ck cs cp cq cn
    have d1 := hW.dq (k := k) (s := s) ⟨ck.1, by omega⟩ cs
    have d2 := hW.dq (k := p) (s := q) ⟨cp.1, by omega⟩ cq
    unfold wpJ_X4_problemOfExchange_60
    refine q_hasPassed hR hW hs.1 hs.2 (fun c => one_ne' (h3 ck cs cp cq cn (Or.inl c))) (fun c5 => zero_eq' ?_)
    refine q_hasPassed hR hW hq.1 hq.2 (fun c => one_ne (h3 ck cs cp cq cn (Or.inr c))) (fun c6 => zero_eq ?_)
    refine q_guardOn hR hW ck.1 ck.2 cs.1 cs.2 (br_m1 (by omega) (fun c => h4 ck cs cp cq cn ⟨c5, c6⟩ (Or.inl c)) (fun c7 => ?_))
    refine q_guardOn hR hW cp.1 cp.2 cq.1 cq.2 (br_nm1 (by omega) (fun c => h4 ck cs cp cq cn ⟨c5, c6⟩ (Or.inr c)) (fun c8 => ?_))
    exact q_isExchangeRefused hR hW ck cs cp cq c7 c8 (fun c => zero_eq (h0 ck cs cp cq cn ⟨c5, c6⟩ ⟨c7, c8⟩ c)) (fun c => one_ne (h5 ck cs cp cq cn ⟨c5, c6⟩ ⟨c7, c8⟩ c))
  unfold wp_X4_problemOfExchange
  refine q_isGate hR hW hk.1 hk.2 (fun c1 c2 => one_ne ?_) (fun c => zero_eq (h1 (fun h => c h.1)))
  refine q_isSlot hs.1 hs.2 (fun c3 c4 => one_ne ?_) (fun c => zero_eq (h1 (fun h => c h.2.1)))
  refine q_isGate hR hW hp.1 hp.2 (fun c5 c6 => one_ne ?_) (fun c => zero_eq (h1 (fun h => c h.2.2.1)))
  refine q_isSlot hq.1 hq.2 (fun c7 c8 => one_ne' ?_) (fun c => zero_eq' (h1 (fun h => c h.2.2.2)))
  refine br_ne hk hp (fun e1 => br_ne hs hq (fun e2 => h2 ⟨c1, c2⟩ ⟨c3, c4⟩ ⟨c5, c6⟩ ⟨c7, c8⟩ ⟨e1, e2⟩) (fun e2 => hJ ⟨c1, c2⟩ ⟨c3, c4⟩ ⟨c5, c6⟩ ⟨c7, c8⟩ (fun h => e2 h.2))) (fun e1 => hJ ⟨c1, c2⟩ ⟨c3, c4⟩ ⟨c5, c6⟩ ⟨c7, c8⟩ (fun h => e1 h.1))
theorem dp_ne {k s p q : Int} (hk : 0 ≤ k) (hs : 0 ≤ s ∧ s < 28) (hp : 0 ≤ p) (hq : 0 ≤ q ∧ q < 28) (h : ¬ (k = p ∧ s = q)) : dp k s ≠ dp p q := by unfold dp; omega
theorem m_exchange {K : Int32 → Mem → Prop} (hG : RG a (σ 26)) (hW : WF a) {m : Int} (hw : σ 25 6 = 0) (hm : σ 25 5 = zI m) (hm1 : 0 ≤ m ∧ m ≤ 8) {k s p q : Int} (hk : -2147483648 ≤ k ∧ k < 2147483648) (hs : -2147483648 ≤ s ∧ s < 2147483648) (hp : -2147483648 ≤ p ∧ p < 2147483648) (hq : -2147483648 ≤ q ∧ q < 2147483648)
    (h1 : ¬ ((0 ≤ k ∧ k < a 0) ∧ (0 ≤ s ∧ s < 28) ∧ (0 ≤ p ∧ p < a 0) ∧ (0 ≤ q ∧ q < 28)) → K 0 (st σ 25 7 1))
    (h2 : (0 ≤ k ∧ k < a 0) → (0 ≤ s ∧ s < 28) → (0 ≤ p ∧ p < a 0) → (0 ≤ q ∧ q < 28) → (k = p ∧ s = q) → K 0 (st σ 25 7 2))
    (h3 : (0 ≤ k ∧ k < a 0) → (0 ≤ s ∧ s < 28) → (0 ≤ p ∧ p < a 0) → (0 ≤ q ∧ q < 28) → ¬ (k = p ∧ s = q) → (s < a 3 ∨ q < a 3) → K 0 (st σ 25 7 3))
    (h4 : (0 ≤ k ∧ k < a 0) → (0 ≤ s ∧ s < 28) → (0 ≤ p ∧ p < a 0) → (0 ≤ q ∧ q < 28) → ¬ (k = p ∧ s = q) → (a 3 ≤ s ∧ a 3 ≤ q) → (du a k s = -1 ∨ du a p q = -1) → K 0 (st (st σ 25 7 0) 25 7 4))
    (h5 : (0 ≤ k ∧ k < a 0) → (0 ≤ s ∧ s < 28) → (0 ≤ p ∧ p < a 0) → (0 ≤ q ∧ q < 28) → ¬ (k = p ∧ s = q) → (a 3 ≤ s ∧ a 3 ≤ q) → (du a k s ≠ -1 ∧ du a p q ≠ -1) → xr a k s p q ≠ 0 → K 0 (st (st (st (st (st (st σ 25 7 0) 25 7 0) 25 16 (zI (xd a k s p q))) 25 8 (zI (xr a k s p q))) 25 9 (zI (xd a k s p q))) 25 7 5))
    (h0 : (0 ≤ k ∧ k < a 0) → (0 ≤ s ∧ s < 28) → (0 ≤ p ∧ p < a 0) → (0 ≤ q ∧ q < 28) → ¬ (k = p ∧ s = q) → (a 3 ≤ s ∧ a 3 ≤ q) → (du a k s ≠ -1 ∧ du a p q ≠ -1) → xr a k s p q = 0 → ∀ f : Nat → Int32, KP m f (σ 27) (σ 26) → K (zI (du a p q)) (st (st (st (va_up (st (st (st (st σ 25 7 0) 25 7 0) 25 16 (zI (xd a k s p q))) 25 7 0) 27 f) 25 5 (zI (if m + 1 < 8 then m + 1 else 8))) 26 (dp k s) (zI (du a p q))) 26 (dp p q) (zI (du a k s)))) : wp_X5_exchange (zI k) (zI s) (zI p) (zI q) σ K := by
  have hc := hW.c
  have hJ : (0 ≤ k ∧ k < a 0) → (0 ≤ s ∧ s < 28) → (0 ≤ p ∧ p < a 0) → (0 ≤ q ∧ q < 28) → ¬ (k = p ∧ s = q) → wpJ_X5_exchange_39 K (zI k) (zI s) (zI p) (zI q) σ := by
    intro ck cs cp cq cn
    have d1 := hW.dq (k := k) (s := s) ⟨ck.1, by omega⟩ cs
    have d2 := hW.dq (k := p) (s := q) ⟨cp.1, by omega⟩ cq
    have e1 : σ 26 (dp k s) = zI (du a k s) := hG.dq ⟨ck.1, by omega⟩ cs
    have e2 : σ 26 (dp p q) = zI (du a p q) := hG.dq ⟨cp.1, by omega⟩ cq
    have R1 : RG (xb a k s p q) (upd (upd (σ 26) (dp k s) (zI (-1))) (dp p q) (zI (-1))) := RG.sd (RG.sd hG ck.1 cs.1 (-1)) cp.1 cq.1 (-1)
    have W0 : WF (sD a k s (-1)) := WF_duty hW ck cs ⟨by omega, by omega⟩
    have W1 : WF (xb a k s p q) := WF_duty W0 ⟨cp.1, by rw [sD_0 ck.1 cs.1 _ (by decide)]; exact cp.2⟩ cq ⟨by omega, by show (-1 : Int) < sD a k s (-1) 1; rw [sD_0 ck.1 cs.1 _ (by decide)]; omega⟩
    have c0 : xb a k s p q 0 = a 0 := by unfold xb; rw [sD_0 cp.1 cq.1 _ (by decide), sD_0 ck.1 cs.1 _ (by decide)]
    have c1 : xb a k s p q 1 = a 1 := by unfold xb; rw [sD_0 cp.1 cq.1 _ (by decide), sD_0 ck.1 cs.1 _ (by decide)]
    unfold wpJ_X5_exchange_39 wpJ_X5_exchange_60 wpJ_X5_exchange_65 wpJ_X5_exchange_101 wpJ_X5_exchange_106
    have hB : a 3 ≤ s → a 3 ≤ q → wpJ_X5_exchange_65 K (zI k) (zI s) (zI p) (zI q) 0 σ := by
      intro c5 c6
      unfold wpJ_X5_exchange_65 wpJ_X5_exchange_101 wpJ_X5_exchange_106
      refine m_f0 (zero_eq ?_)
      refine m_who (σ := st σ 25 7 0) hG ⟨ck.1, by omega⟩ cs (m_who (σ := st σ 25 7 0) hG ⟨cp.1, by omega⟩ cq ?_)
      refine br_lt0 (by omega) (fun c => m_f1 (n := 4) (by decide) (one_ne (h4 ck cs cp cq cn ⟨c5, c6⟩ (Or.inl (by omega))))) (fun c7 => ?_)
      refine br_ge0 (by omega) (fun c8 => ?_) (fun c => m_f1 (n := 4) (by decide) (one_ne (h4 ck cs cp cq cn ⟨c5, c6⟩ (Or.inr (by omega)))))
      refine m_f0 (zero_eq ?_)
      rw [zl_m1]
      refine m_puts (σ := st (st σ 25 7 0) 25 7 0) ⟨ck.1, by omega⟩ cs (m_puts (σ := st (st (st σ 25 7 0) 25 7 0) 26 (dp k s) (zI (-1))) ⟨cp.1, by omega⟩ cq ?_)
      refine m_isRefused (σ := st (st (st (st σ 25 7 0) 25 7 0) 26 (dp k s) (zI (-1))) 26 (dp p q) (zI (-1))) R1 W1 ⟨ck.1, by omega⟩ cs ⟨by omega, by omega⟩ (fun c => zero_eq' ?_) (fun c => one_ne' ?_)
      · have R2 := RG.sd R1 ck.1 cs.1 (du a p q)
        have W2 : WF (sD (xb a k s p q) k s (du a p q)) := WF_duty W1 ⟨ck.1, by omega⟩ cs ⟨by omega, by omega⟩
        have c3 : sD (xb a k s p q) k s (du a p q) 0 = a 0 := by rw [sD_0 ck.1 cs.1 _ (by decide), c0]
        have c4 : sD (xb a k s p q) k s (du a p q) 1 = a 1 := by rw [sD_0 ck.1 cs.1 _ (by decide), c1]
        have x1 : xr a k s p q = rsn (sD (xb a k s p q) k s (du a p q)) p q (du a k s) := if_neg (by omega)
        have x2 : xd a k s p q = dtl (sD (xb a k s p q) k s (du a p q)) p q (du a k s) := if_neg (by omega)
        refine m_puts ⟨ck.1, by omega⟩ cs ?_
        refine m_isRefused (σ := st (st (st (st (st (st σ 25 7 0) 25 7 0) 26 (dp k s) (zI (-1))) 26 (dp p q) (zI (-1))) 25 16 (zI (dtl (xb a k s p q) k s (du a p q)))) 26 (dp k s) (zI (du a p q))) R2 W2 ⟨cp.1, by omega⟩ cq ⟨by omega, by omega⟩ (fun c9 => ?_) (fun c9 => ?_)
        · unfold wpJ_X5_exchange_165
          refine m_puts ⟨ck.1, by omega⟩ cs (m_puts ⟨cp.1, by omega⟩ cq (zero_eq ?_))
          simp only [st_i26, st2_26, st_u]
          rw [st_st _ 25 16, upd_5 (σ 26) e1 e2, up_s, ← x2]
          refine m_keeps_26 (σ := st (st (st σ 25 7 0) 25 7 0) 25 16 _) hw hm hm1 (fun f hf => ?_)
          refine m_puts ⟨ck.1, by omega⟩ cs (m_puts ⟨cp.1, by omega⟩ cq ?_)
          exact h0 ck cs cp cq cn ⟨c5, c6⟩ ⟨by omega, by omega⟩ (by omega) f hf
        · unfold wpJ_X5_exchange_165
          refine m_puts ⟨ck.1, by omega⟩ cs (m_puts ⟨cp.1, by omega⟩ cq (one_ne ?_))
          simp only [st_i26, st2_26, st_u]
          rw [st_st _ 25 16, upd_5 (σ 26) e1 e2, up_s, ← x1, ← x2]
          exact h5 ck cs cp cq cn ⟨c5, c6⟩ ⟨by omega, by omega⟩ (by omega)
      · have x1 : xr a k s p q = rsn (xb a k s p q) k s (du a p q) := if_pos (by omega)
        have x2 : xd a k s p q = dtl (xb a k s p q) k s (du a p q) := if_pos (by omega)
        unfold wpJ_X5_exchange_165
        refine m_puts ⟨ck.1, by omega⟩ cs (m_puts ⟨cp.1, by omega⟩ cq (one_ne ?_))
        simp only [st_i26, st2_26, st_u]
        rw [upd_4 (σ 26) e1 e2, up_s, ← x1, ← x2]
        exact h5 ck cs cp cq cn ⟨c5, c6⟩ ⟨by omega, by omega⟩ (by omega)
    rw [hG.2.2.1]
    refine br_lt (by omega) (by omega) (fun c => m_f1 (n := 3) (by decide) (one_ne (h3 ck cs cp cq cn (Or.inl c)))) (fun c5 => ?_)
    refine br_le (by omega) (by omega) (fun c6 => ?_) (fun c => m_f1 (n := 3) (by decide) (one_ne (h3 ck cs cp cq cn (Or.inr c))))
    exact hB c5 c6
  unfold wp_X5_exchange wpJ_X5_exchange_20 wpJ_X5_exchange_65
  refine m_arePlace hG hW hk hs (fun c1 c2 => one_ne ?_) (fun c => zero_eq (m_f1 (n := 1) (by decide) (one_ne (h1 (fun h => c ⟨h.1, h.2.1⟩)))))
  refine m_arePlace hG hW hp hq (fun c3 c4 => one_ne' ?_) (fun c => zero_eq' (m_f1 (n := 1) (by decide) (one_ne (h1 (fun h => c h.2.2)))))
  refine br_ne hk hp (fun e1 => br_ne hs hq (fun e2 => m_f1 (n := 2) (by decide) (one_ne (h2 c1 c2 c3 c4 ⟨e1, e2⟩))) (fun e2 => hJ c1 c2 c3 c4 (fun h => e2 h.2))) (fun e1 => hJ c1 c2 c3 c4 (fun h => e1 h.1))
end X0
theorem o_10 {σ : Mem} (hI : Inv σ) (a1 a2 a3 a4 : Int32) : wplc_10 a1 a2 a3 a4 σ Inv := by
  obtain ⟨⟨a, hW, hR, hG⟩, hX⟩ := hI
  have hc := hW.c
  obtain ⟨n, m, hn, hm, e1, e2, e3, hs9⟩ := id hX.1
  obtain ⟨k, rfl, hk⟩ := zI_ex a1
  obtain ⟨s, rfl, hs⟩ := zI_ex a2
  obtain ⟨p, rfl, hp⟩ := zI_ex a3
  obtain ⟨q, rfl, hq⟩ := zI_ex a4
  unfold wplc_10 wp_L_exchange wp_X4_exchange
  refine q_problemOfExchange hR hW hk hs hp hq (fun c => tf1 (Or.inl ⟨rfl, ?_⟩)) (fun c1 c2 c3 c4 c => tf2 (Or.inr (Or.inl ⟨rfl, ?_⟩))) (fun c1 c2 c3 c4 c5 c => tf3 (Or.inr (Or.inr (Or.inl ⟨rfl, ?_⟩)))) (fun c1 c2 c3 c4 c5 c6 c => tf4 (Or.inr (Or.inr (Or.inr (Or.inl ⟨rfl, ?_⟩))))) (fun c1 c2 c3 c4 c5 c6 c7 c => tf0 ?_) (fun c1 c2 c3 c4 c5 c6 c7 c => tf5 (Or.inr (Or.inr (Or.inr (Or.inr ⟨rfl, ?_⟩)))))
  · exact m_exchange hG hW hX.2.2.1 e3 hm hk hs hp hq (fun _ => fin_i rfl (fun c => absurd c (by decide)) ⟨⟨a, hW, hR, hG⟩, hX⟩) (fun x y z w _ => absurd ⟨x, y, z, w⟩ c) (fun x y z w _ _ => absurd ⟨x, y, z, w⟩ c) (fun x y z w _ _ _ => absurd ⟨x, y, z, w⟩ c) (fun x y z w _ _ _ _ => absurd ⟨x, y, z, w⟩ c) (fun x y z w _ _ _ _ => absurd ⟨x, y, z, w⟩ c)
  · exact m_exchange hG hW hX.2.2.1 e3 hm hk hs hp hq (fun h => absurd ⟨c1, c2, c3, c4⟩ h) (fun _ _ _ _ _ => fin_i rfl (fun c => absurd c (by decide)) ⟨⟨a, hW, hR, hG⟩, hX⟩) (fun _ _ _ _ h _ => absurd c h) (fun _ _ _ _ h _ _ => absurd c h) (fun _ _ _ _ h _ _ _ => absurd c h) (fun _ _ _ _ h _ _ _ => absurd c h)
  · exact m_exchange hG hW hX.2.2.1 e3 hm hk hs hp hq (fun h => absurd ⟨c1, c2, c3, c4⟩ h) (fun _ _ _ _ h => absurd h c5) (fun _ _ _ _ _ _ => fin_i rfl (fun c => absurd c (by decide)) ⟨⟨a, hW, hR, hG⟩, hX⟩) (fun _ _ _ _ _ h _ => absurd h (by omega)) (fun _ _ _ _ _ h _ _ => absurd h (by omega)) (fun _ _ _ _ _ h _ _ => absurd h (by omega))
  · exact m_exchange hG hW hX.2.2.1 e3 hm hk hs hp hq (fun h => absurd ⟨c1, c2, c3, c4⟩ h) (fun _ _ _ _ h => absurd h c5) (fun _ _ _ _ _ h => absurd h (by omega)) (fun _ _ _ _ _ _ _ => fin_i rfl (fun c => absurd c (by decide)) ⟨⟨a, hW, hR, hG⟩, hX⟩) (fun _ _ _ _ _ _ h _ => absurd h (by omega)) (fun _ _ _ _ _ _ h _ => absurd h (by omega))
  · have d1 := hW.dq (k := k) (s := s) ⟨c1.1, by omega⟩ c2
    have d2 := hW.dq (k := p) (s := q) ⟨c3.1, by omega⟩ c4
    refine q_keep e1 hn e2 hm ?_
    refine q_guardOn (σ := st (st (wr σ (Rn σ n.toNat)) 4 1 _) 4 2 _) hR hW c1.1 c1.2 c2.1 c2.2 ?_
    refine q_guardOn (σ := st (st (wr σ (Rn σ n.toNat)) 4 1 _) 4 2 _) hR hW c3.1 c3.2 c4.1 c4.2 ?_
    refine q_setDuty (σ := st (st (wr σ (Rn σ n.toNat)) 4 1 _) 4 2 _) hR hW c1 c2 ?_
    refine q_setDuty (a := sD a k s (du a p q)) (RC.sd hR c1.1 c2.1 _) (WF_duty hW c1 c2 ⟨by omega, by omega⟩) ⟨c3.1, by rw [sD_0 c1.1 c2.1 _ (by decide)]; exact c3.2⟩ c4 ?_
    intro σ4 e
    subst e
    refine m_exchange (σ := st (st (st (st (st (wr σ (Rn σ n.toNat)) 4 1 _) 4 2 _) 2 (dp k s) (zI (du a p q + 1))) 2 (dp p q) (zI (du a k s + 1))) 34 0 (zI (du a p q))) hG hW hX.2.2.1 e3 hm hk hs hp hq (fun h => absurd ⟨c1, c2, c3, c4⟩ h) (fun _ _ _ _ h => absurd h c5) (fun _ _ _ _ _ h => absurd h (by omega)) (fun _ _ _ _ _ _ h => absurd h (by omega)) (fun _ _ _ _ _ _ _ h => absurd c h) (fun _ _ _ _ _ _ _ _ f hf => ?_)
    exact fin_i rfl (fun _ => rfl) ⟨⟨sD (sD a k s (du a p q)) p q (du a k s), WF_duty (WF_duty hW c1 c2 ⟨by omega, by omega⟩) ⟨c3.1, by rw [sD_0 c1.1 c2.1 _ (by decide)]; exact c3.2⟩ c4 ⟨by omega, by rw [sD_0 c1.1 c2.1 _ (by decide)]; omega⟩, RC.sd (RC.sd hR c1.1 c2.1 _) c3.1 c4.1 _, RG.sd (RG.sd hG c1.1 c2.1 _) c3.1 c4.1 _⟩, HS_push hn hm hs9 hW hR hG hf (ring_wr ⟨rfl, rfl, rfl, rfl, rfl, rfl, rfl, rfl, rfl⟩), hX.2⟩
  · refine m_exchange (σ := st (st σ 0 8 _) 0 9 _) hG hW hX.2.2.1 e3 hm hk hs hp hq (fun h => absurd ⟨c1, c2, c3, c4⟩ h) (fun _ _ _ _ h => absurd h c5) (fun _ _ _ _ _ h => absurd h (by omega)) (fun _ _ _ _ _ _ h => absurd h (by omega)) (fun _ _ _ _ _ _ _ _ => ?_) (fun _ _ _ _ _ _ _ h => absurd h c)
    exact fin_i rfl (fun c => absurd c (by decide)) ⟨⟨a, hW, hR, hG⟩, hX.1, hX.2.1, hX.2.2.1, ⟨rfl, rfl⟩, hX.2.2.2.2⟩
