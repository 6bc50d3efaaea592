/-! the text: the model reads all commands -/
theorem m_commandHere {K : Int32 → Mem → Prop} {ch : Int → Int} {n m p : Int} {σ : Mem} {f : Nat → Int32} (h : TM σ ch n) (hm : σ 25 20 = zI m) (hm2 : 0 ≤ m ∧ m ≤ 8) (hq : 0 ≤ p ∧ p ≤ n)
    (h1 : (res ch p).1 = true → ∀ g, F4 m f g → g (4 * m).toNat = zI (kdn ch p) → V4 m g (res ch p).2.2 → K 1 (MS σ g (res ch p).2.1)) (h0 : (res ch p).1 = false → ∀ g, F4 m f g → K 0 (MS σ g (res ch p).2.1)) : wp_X5_commandHere (MS σ f p) K := by
  have hf0 : F4 m f f := fun _ _ => rfl
  have hno : kdn ch p = -1 → K 0 (MS σ f (kq ch p)) := fun hk => by
    have e : res ch p = (false, kq ch p, []) := if_pos hk
    rw [e] at h0
    exact h0 rfl f hf0
  have hyes : ∀ k : Nat, k < 8 → kdn ch p = k → res ch p = rd ch (LSn k) p := fun k _ hk => by
    have e : res ch p = rd ch (LSn (kdn ch p).toNat) p := if_neg (by omega)
    rw [e, hk, Int.toNat_natCast]
  unfold wp_X5_commandHere
  intro v1 e1
  rw [show MS σ f p 25 20 = σ 25 20 from rfl, hm, zl_4, zl_1, zI_mul, zI_add] at e1
  subst e1
  refine m_skips (c := 103) h hq (by decide) (fun a1 hq1 => one_ne ?_) (fun a1 => zero_eq ?_)
  · unfold wp_X5_withG
    refine m_skips (c := 97) h ⟨by omega, hq1⟩ (by decide) (fun b1 hq2 => one_ne ?_) (fun b1 => zero_eq ?_)
    · have hk : kdn ch p = 0 := by
        unfold kdn
        rw [if_pos a1, if_pos b1]
      have hE : res ch p = rd ch (WL_8 ++ [32, 35]) (p + 1 + 1) := by
        rw [hyes 0 (by decide) hk]
        show rd ch (103 :: 97 :: (WL_8 ++ [32, 35])) p = _
        rw [rd_go (by decide) a1, rd_go (by decide) b1]
      exact m_br_0 (K := fun r s => narrow .boolean (.int r) = .int r ∧ K r s) h hm hm2 ⟨by omega, hq2⟩ hk hE (fun c g g1 g2 g3 => ⟨rfl, h1 c g g1 g2 g3⟩) (fun c g g1 => ⟨rfl, h0 c g g1⟩)
    · refine m_skips (c := 117) h ⟨by omega, hq1⟩ (by decide) (fun b2 hq2 => one_ne ?_) (fun b2 => zero_eq ?_)
      · have hk : kdn ch p = 1 := by
          unfold kdn
          rw [if_pos a1, if_neg b1, if_pos b2]
        have hE : res ch p = rd ch (WL_9 ++ [32, 35]) (p + 1 + 1) := by
          rw [hyes 1 (by decide) hk]
          show rd ch (103 :: 117 :: (WL_9 ++ [32, 35])) p = _
          rw [rd_go (by decide) a1, rd_go (by decide) b2]
        exact m_br_1 (K := fun r s => narrow .boolean (.int r) = .int r ∧ K r s) h hm hm2 ⟨by omega, hq2⟩ hk hE (fun c g g1 g2 g3 => ⟨rfl, h1 c g g1 g2 g3⟩) (fun c g g1 => ⟨rfl, h0 c g g1⟩)
      · have hk : kdn ch p = -1 := by
          unfold kdn
          rw [if_pos a1, if_neg b1, if_neg b2]
        have := hno hk
        rw [show kq ch p = p + 1 from if_pos (Or.inl a1)] at this
        exact ⟨rfl, this⟩
  · refine m_skips (c := 102) h hq (by decide) (fun a2 hq1 => one_ne ?_) (fun a2 => zero_eq ?_)
    · unfold wp_X5_withF
      refine m_skips (c := 114) h ⟨by omega, hq1⟩ (by decide) (fun b1 hq2 => one_ne ?_) (fun b1 => zero_eq ?_)
      · have hk : kdn ch p = 3 := by
          unfold kdn
          rw [if_neg a1, if_pos a2, if_pos b1]
        have hE : res ch p = rd ch (WL_10 ++ [32, 35, 64, 37]) (p + 1 + 1) := by
          rw [hyes 3 (by decide) hk]
          show rd ch (102 :: 114 :: (WL_10 ++ [32, 35, 64, 37])) p = _
          rw [rd_go (by decide) a2, rd_go (by decide) b1]
        exact m_br_3 (K := fun r s => narrow .boolean (.int r) = .int r ∧ K r s) h hm hm2 ⟨by omega, hq2⟩ hk hE (fun c g g1 g2 g3 => ⟨rfl, h1 c g g1 g2 g3⟩) (fun c g g1 => ⟨rfl, h0 c g g1⟩)
      · refine m_skips (c := 105) h ⟨by omega, hq1⟩ (by decide) (fun b2 hq2 => one_ne ?_) (fun b2 => zero_eq ?_)
        · have hk : kdn ch p = 5 := by
            unfold kdn
            rw [if_neg a1, if_pos a2, if_neg b1, if_pos b2]
          have hE : res ch p = rd ch (WL_11 ++ [32, 37]) (p + 1 + 1) := by
            rw [hyes 5 (by decide) hk]
            show rd ch (102 :: 105 :: (WL_11 ++ [32, 37])) p = _
            rw [rd_go (by decide) a2, rd_go (by decide) b2]
          exact m_br_5 (K := fun r s => narrow .boolean (.int r) = .int r ∧ K r s) h hm hm2 ⟨by omega, hq2⟩ hk hE (fun c g g1 g2 g3 => ⟨rfl, h1 c g g1 g2 g3⟩) (fun c g g1 => ⟨rfl, h0 c g g1⟩)
        · refine m_skips (c := 111) h ⟨by omega, hq1⟩ (by decide) (fun b3 hq2 => one_ne ?_) (fun b3 => zero_eq ?_)
          · have hk : kdn ch p = 6 := by
              unfold kdn
              rw [if_neg a1, if_pos a2, if_neg b1, if_neg b2, if_pos b3]
            have hE : res ch p = rd ch (WL_12 ++ [32, 37]) (p + 1 + 1) := by
              rw [hyes 6 (by decide) hk]
              show rd ch (102 :: 111 :: (WL_12 ++ [32, 37])) p = _
              rw [rd_go (by decide) a2, rd_go (by decide) b3]
            exact m_br_6 (K := fun r s => narrow .boolean (.int r) = .int r ∧ K r s) h hm hm2 ⟨by omega, hq2⟩ hk hE (fun c g g1 g2 g3 => ⟨rfl, h1 c g g1 g2 g3⟩) (fun c g g1 => ⟨rfl, h0 c g g1⟩)
          · have hk : kdn ch p = -1 := by
              unfold kdn
              rw [if_neg a1, if_pos a2, if_neg b1, if_neg b2, if_neg b3]
            have := hno hk
            rw [show kq ch p = p + 1 from if_pos (Or.inr a2)] at this
            exact ⟨rfl, this⟩
    · refine m_skips (c := 100) h hq (by decide) (fun a3 hq1 => one_ne ?_) (fun a3 => zero_eq ?_)
      · have hk : kdn ch p = 2 := by
          unfold kdn
          rw [if_neg a1, if_neg a2, if_pos a3]
        have hE : res ch p = rd ch (WL_13 ++ [32, 35, 64, 37, 61, 35]) (p + 1) := by
          rw [hyes 2 (by decide) hk]
          show rd ch (100 :: (WL_13 ++ [32, 35, 64, 37, 61, 35])) p = _
          rw [rd_go (by decide) a3]
        exact m_br_2 h hm hm2 ⟨by omega, hq1⟩ hk hE h1 h0
      · refine m_skips (c := 108) h hq (by decide) (fun a4 hq1 => one_ne ?_) (fun a4 => zero_eq ?_)
        · have hk : kdn ch p = 4 := by
            unfold kdn
            rw [if_neg a1, if_neg a2, if_neg a3, if_pos a4]
          have hE : res ch p = rd ch (WL_14 ++ [32, 35, 32, 37, 45, 37]) (p + 1) := by
            rw [hyes 4 (by decide) hk]
            show rd ch (108 :: (WL_14 ++ [32, 35, 32, 37, 45, 37])) p = _
            rw [rd_go (by decide) a4]
          exact m_br_4 h hm hm2 ⟨by omega, hq1⟩ hk hE h1 h0
        · refine m_skips (c := 112) h hq (by decide) (fun a5 hq1 => one_ne ?_) (fun a5 => zero_eq ?_)
          · have hk : kdn ch p = 7 := by
              unfold kdn
              rw [if_neg a1, if_neg a2, if_neg a3, if_neg a4, if_pos a5]
            have hE : res ch p = rd ch (WL_15 ++ [32, 37]) (p + 1) := by
              rw [hyes 7 (by decide) hk]
              show rd ch (112 :: (WL_15 ++ [32, 37])) p = _
              rw [rd_go (by decide) a5]
            exact m_br_7 h hm hm2 ⟨by omega, hq1⟩ hk hE h1 h0
          · have hk : kdn ch p = -1 := by
              unfold kdn
              rw [if_neg a1, if_neg a2, if_neg a3, if_neg a4, if_neg a5]
            have := hno hk
            rw [show kq ch p = p from if_neg (fun z => z.elim a1 a2)] at this
            exact this
theorem st_sj (σ : Mem) (c : Nat) {i j : Nat} (h : i ≠ j) (v w : Int32) : st (st σ c i v) c j w = st (st σ c j w) c i v := by
  funext d k
  by_cases hd : d = c
  · subst hd
    by_cases h1 : k = i
    · subst h1; rw [st_j _ _ _ h, st_e, st_e]
    · rw [st_j (st σ d j w) _ _ h1]
      by_cases h2 : k = j
      · subst h2; rw [st_e, st_e]
      · rw [st_j _ _ _ h2, st_j _ _ _ h1, st_j _ _ _ h2]
  · rw [st_c _ _ _ hd, st_c _ _ _ hd, st_c _ _ _ hd, st_c _ _ _ hd]
def MT (σ : Mem) (g : Nat → Int32) (m q : Int) : Mem := MS (st σ 25 20 (zI m)) g q
theorem MT_m (σ : Mem) (g : Nat → Int32) (m q m' : Int) : st (MT σ g m q) 25 20 (zI m') = MT σ g m' q := by
  unfold MT MS
  rw [st_iu _ _ _ (show (25 : Nat) ≠ 33 by decide), st_sj _ _ (show (18 : Nat) ≠ 20 by decide), st_st]
def SM4 (g : Nat → Int32) (m : Int) (cs : List (Int × List Int)) : Prop := ∀ i : Nat, i < cs.length → g (4 * (m + i)).toNat = zI (cs.getD i (0, [])).1 ∧ V4 (m + i) g (cs.getD i (0, [])).2
theorem m_isTextL {K : Int32 → Mem → Prop} {ch : Int → Int} {n : Int} {σ : Mem} (h : TM σ ch n) : ∀ (r : Nat) (m p : Int) (f : Nat → Int32), m + r = 9 → 0 ≤ m → 7 * m ≤ p → p ≤ n →
    ((pt ch r p).1 = true → ∀ g q, (∀ j : Nat, (j : Int) < 4 * m → g j = f j) → SM4 g m (pt ch r p).2.2 → K 1 (MT σ g (m + (pt ch r p).2.2.length) q)) → ((pt ch r p).1 = false → ∀ g m', K 0 (MT σ g m' (pt ch r p).2.1)) → wlp (wpF_X5_isText_10 K) (r + 1) (MT σ f m p)
  | 0, m, p, f, hr, hm, hp, hpn, _, _ => by
    have := h.1.1
    omega
  | r + 1, m, p, f, hr, hm, hp, hpn, h1, h0 => by
    have hn := h.1.1
    have hrl := res_le h.1 hpn
    have hrd : pt ch (r + 1) p = if (res ch p).1 = true then (if ch (res ch p).2.1 = -1 then (true, (res ch p).2.1, [(kdn ch p, (res ch p).2.2)]) else if ch (res ch p).2.1 = 59 then ((pt ch r ((res ch p).2.1 + 1)).1, (pt ch r ((res ch p).2.1 + 1)).2.1, (kdn ch p, (res ch p).2.2) :: (pt ch r ((res ch p).2.1 + 1)).2.2) else (false, (res ch p).2.1, [])) else (false, (res ch p).2.1, []) := rfl
    rw [hrd] at h1 h0
    have hT2 : ∀ m', TM (st σ 25 20 (zI m')) ch n := fun m' => ⟨h.1, h.2.1, h.2.2⟩
    show wpS_X5_isText_10 K (wlp (wpF_X5_isText_10 K) (r + 1)) (MS (st σ 25 20 (zI m)) f p)
    unfold wpS_X5_isText_10
    refine m_commandHere (hT2 m) (st_e σ 25 20 _) ⟨hm, by omega⟩ ⟨by omega, hpn⟩ (fun hk g hF hkd hv => ?_) (fun hk g hF => ?_)
    · have h6 := res_6 hk
      rw [if_pos hk] at h1 h0
      refine one_ne' (fun σ6 e6 => ?_)
      have e20 : MS (st σ 25 20 (zI m)) g (res ch p).2.1 25 20 = zI m := st_e σ 25 20 _
      rw [e20, zl_1, zI_add] at e6
      have e7 : st (MS (st σ 25 20 (zI m)) g (res ch p).2.1) 25 20 (zI (m + 1)) = MS (st σ 25 20 (zI (m + 1))) g (res ch p).2.1 := MT_m σ g m _ (m + 1)
      rw [e7] at e6
      subst e6
      have hfr : ∀ j : Nat, (j : Int) < 4 * m → g j = f j := fun j hj => hF j (by omega)
      refine m_skips (c := 59) (hT2 (m + 1)) ⟨by omega, hrl.2⟩ (by decide) (fun c hq1 => one_ne' ?_) (fun c => zero_eq' ?_)
      · have c1 : ch (res ch p).2.1 ≠ -1 := by omega
        rw [if_neg c1, if_pos c] at h1 h0
        refine m_isTextL h r (m + 1) ((res ch p).2.1 + 1) g (by omega) (by omega) (by omega) hq1 (fun hk2 g2 q2 hf2 hs2 => ?_) h0
        have hlen : m + 1 + ((pt ch r ((res ch p).2.1 + 1)).2.2.length : Int) = m + (((kdn ch p, (res ch p).2.2) :: (pt ch r ((res ch p).2.1 + 1)).2.2).length : Int) := by
          rw [List.length_cons]
          omega
        rw [hlen]
        refine h1 hk2 g2 q2 (fun j hj => by rw [hf2 j (by omega), hfr j hj]) (fun i hi => ?_)
        cases i with
        | zero =>
          rw [show m + ((0 : Nat) : Int) = m by omega]
          refine ⟨by rw [hf2 _ (by omega)]; exact hkd, fun j hj => ?_⟩
          have h3 := res_3 hk
          change j < (res ch p).2.2.length at hj
          rw [hf2 _ (by omega)]
          exact hv j hj
        | succ i =>
          have := hs2 i (by
            change i + 1 < (pt ch r ((res ch p).2.1 + 1)).2.2.length + 1 at hi
            omega)
          rw [show m + ((i + 1 : Nat) : Int) = m + 1 + (i : Int) by omega]
          exact this
      · unfold wpJ_X5_isText_38
        have e18 : MS (st σ 25 20 (zI (m + 1))) g (res ch p).2.1 25 18 = zI (res ch p).2.1 := MS_18 _ _ _
        rw [e18, show MS (st σ 25 20 (zI (m + 1))) g (res ch p).2.1 25 11 = σ 25 11 from rfl, h.2.1]
        refine br_ne (by omega) (by omega) (fun c2 => ?_) (fun c2 => ?_)
        · rw [if_pos (h.1.2.1 _ (by omega))] at h1
          refine h1 rfl g _ hfr (fun i hi => ?_)
          have e : i = 0 := by
            change i < 1 at hi
            omega
          subst e
          rw [show m + ((0 : Nat) : Int) = m by omega]
          exact ⟨hkd, hv⟩
        · have c1 : ch (res ch p).2.1 ≠ -1 := by
            have := h.1.2.2.2 (res ch p).2.1 (by omega) (by omega)
            omega
          rw [if_neg c1, if_neg c] at h0
          exact h0 rfl g (m + 1)
    · rw [if_neg (by rw [hk]; decide)] at h0
      exact zero_eq' (h0 rfl g m)
theorem m_isText {K : Int32 → Mem → Prop} {ch : Int → Int} {n : Int} {σ : Mem} (h : TM σ ch n) (h1 : (pt ch 9 0).1 = true → ∀ g q, SM4 g 0 (pt ch 9 0).2.2 → K 1 (MT σ g ((pt ch 9 0).2.2.length) q)) (h0 : (pt ch 9 0).1 = false → ∀ g m', K 0 (MT σ g m' (pt ch 9 0).2.1)) : wp_X5_isText σ K := by
  unfold wp_X5_isText
  intro σ1 e1 σ2 e2
  subst e1
  have e : σ2 = MT σ (σ 33) 0 0 := by
    rw [e2, st_sj _ _ (show (18 : Nat) ≠ 20 by decide)]
    exact (up_s (st (st σ 25 20 0) 25 18 0) 33).symm
  subst e
  refine ⟨10, m_isTextL h 9 0 0 (σ 33) (by decide) (by decide) (by decide) h.1.1.1 (fun hk g q _ hs => ?_) h0⟩
  rw [Int.zero_add]
  exact h1 hk g q hs
