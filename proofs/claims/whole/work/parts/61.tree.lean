/-! the text: the model's tree of letters -/
def MS (σ : Mem) (f : Nat → Int32) (q : Int) : Mem := va_up (st σ 25 18 (zI q)) 33 f
def TM (σ : Mem) (ch : Int → Int) (n : Int) : Prop := TX ch n ∧ σ 25 11 = zI n ∧ ∀ p, 0 ≤ p → p < n → σ 30 p.toNat = zI (ch p)
theorem MS_18 (σ : Mem) (f : Nat → Int32) (q : Int) : MS σ f q 25 18 = zI q := st_e σ 25 18 _
theorem MS_q (σ : Mem) (f : Nat → Int32) (q q' : Int) : st (MS σ f q) 25 18 (zI q') = MS σ f q' := st_cc σ (by decide) 18 _ _ f
theorem MS_f (σ : Mem) (f : Nat → Int32) (q : Int) (j : Nat) (v : Int32) : st (MS σ f q) 33 j v = MS σ (upd f j v) q := st_u _ _ _ _ _
section H0
variable {σ : Mem} {K : Int32 → Mem → Prop} {ch : Int → Int} {n : Int} {f : Nat → Int32}
theorem m_here (h : TM σ ch n) {q : Int} (hq : 0 ≤ q ∧ q ≤ n) (hK : K (zI (ch q)) (MS σ f q)) : wp_X5_here (MS σ f q) K := by
  have hn := h.1.1
  unfold wp_X5_here
  rw [MS_18, show MS σ f q 25 11 = σ 25 11 from rfl, h.2.1]
  refine br_le (by omega) (by omega) (fun c => ?_) (fun c => ⟨zI_in (by omega) (by omega) (by decide), ?_⟩)
  · rw [h.1.2.1 q (by omega)] at hK
    exact hK
  · rw [zI_nat hq.1 (by omega), show MS σ f q 30 q.toNat = σ 30 q.toNat from rfl, h.2.2 q hq.1 c]
    exact hK
theorem m_skips (h : TM σ ch n) {q c : Int} (hq : 0 ≤ q ∧ q ≤ n) (hc : 0 ≤ c ∧ c < 256) (h1 : ch q = c → q + 1 ≤ n → K 1 (MS σ f (q + 1))) (h0 : ch q ≠ c → K 0 (MS σ f q)) : wp_X5_skips (zI c) (MS σ f q) K := by
  have hn := h.1.1
  have hr := h.1.2.2.1 q
  unfold wp_X5_skips
  refine m_here h hq (br_eq (by omega) (by omega) (fun e σ4 e4 => ?_) h0)
  have hl := h.1.lt (p := q) (by omega)
  rw [MS_18, zl_1, zI_add, MS_q] at e4
  subst e4
  exact h1 e (by omega)
theorem m_figures (h : TM σ ch n) {q c x d : Int} {rest : List Int} (hq : 0 ≤ q ∧ q ≤ n) (hc : 0 ≤ c ∧ c < 256) (hc2 : ¬ (c = 35 ∨ c = 37)) (hx : 0 ≤ x ∧ x < 124) {w : Int} (hd : (d = 35 ∧ w = 1) ∨ (d = 37 ∧ w = 2))
    (h0 : ∀ q', rd ch (c :: d :: rest) q = (false, q', []) → K 0 (MS σ f q')) (h1 : ∀ v q', rd ch (c :: d :: rest) q = cv v (rd ch rest q') → (0 ≤ q' ∧ q' ≤ n) → K 1 (MS σ (upd f x.toNat (zI v)) q')) : wp_X5_figures (zI c) (zI x) (zI w) (MS σ f q) K := by
  have hn := h.1.1
  have hr := h.1.2.2.1 (q + 1)
  have hr2 := h.1.2.2.1 (q + 1 + 1)
  have hrd : rd ch (d :: rest) (q + 1) = if d = 35 ∨ d = 37 then (if dg (ch (q + 1)) = true then (if d = 37 ∧ dg (ch (q + 1 + 1)) = true then cv ((ch (q + 1) - 48) * 10 + ch (q + 1 + 1) - 48) (rd ch rest (q + 1 + 2)) else cv (ch (q + 1) - 48) (rd ch rest (q + 1 + 1))) else (false, q + 1, [])) else if ch (q + 1) = d then rd ch rest (q + 1 + 1) else (false, q + 1, []) := rfl
  rw [if_pos (by omega)] at hrd
  unfold wp_X5_figures
  refine m_skips h hq hc (fun e hq1 => one_ne ?_) (fun e => zero_eq (h0 q (rd_no hc2 e)))
  have hgo : rd ch (c :: d :: rest) q = rd ch (d :: rest) (q + 1) := rd_go hc2 e
  rw [hgo, hrd] at h0 h1
  refine m_here h ⟨by omega, hq1⟩ ?_
  rw [zl_48, zl_57]
  refine m_in (by omega) (by omega) (by omega) (fun c1 c2 => one_ne' ?_) (fun c1 => zero_eq' ?_)
  · have hdg : dg (ch (q + 1)) = true := dg_iff.2 ⟨c1, c2⟩
    have hl := h.1.lt (p := q + 1) (by omega)
    rw [if_pos hdg] at h0 h1
    refine ⟨zI_in (by omega) (by omega) (by decide), fun σ9 e9 => ⟨3, ?_⟩⟩
    rw [zI_nat hx.1 (by omega), MS_f] at e9
    subst e9
    show wpS_X5_figures_34 K (wlp (wpF_X5_figures_34 K) 2) (zI x) (zI w) 0 (MS σ (upd f x.toNat 0) (q + 1))
    unfold wpS_X5_figures_34
    refine br_le0 (by omega) (fun c => absurd c (by omega)) (fun _ => ?_)
    refine m_here h ⟨by omega, hq1⟩ ?_
    rw [zl_48, zl_57]
    refine m_in (by omega) (by omega) (by omega) (fun _ _ => one_ne ?_) (fun c => absurd (⟨c1, c2⟩ : 48 ≤ ch (q + 1) ∧ ch (q + 1) ≤ 57) c)
    refine ⟨zI_in (by omega) (by omega) (by decide), m_here h ⟨by omega, hq1⟩ ⟨zI_in (by omega) (by omega) (by decide), fun σ18 e18 σ19 e19 v20 e20 => ?_⟩⟩
    have hz : MS σ (upd f x.toNat 0) (q + 1) 33 x.toNat = zI 0 := by
      show upd f x.toNat 0 x.toNat = zI 0
      unfold upd
      rw [if_pos rfl]
      rfl
    rw [zI_nat hx.1 (by omega), hz, zl_10, zI_mul, zI_add, zI_sub, MS_f, fa_upd2, show 10 * 0 + ch (q + 1) - 48 = ch (q + 1) - 48 by omega] at e18
    subst e18
    rw [MS_18, zl_1, zI_add, MS_q] at e19
    rw [zl_0, zl_1, zI_add] at e20
    subst e19; subst e20
    show wpS_X5_figures_34 K (wlp (wpF_X5_figures_34 K) 1) (zI x) (zI w) (zI (0 + 1)) (MS σ (upd f x.toNat (zI (ch (q + 1) - 48))) (q + 1 + 1))
    unfold wpS_X5_figures_34
    refine br_le (by omega) (by omega) (fun cw => ?_) (fun cw => ?_)
    · rw [if_neg (fun z => by omega)] at h1
      exact h1 _ _ rfl ⟨by omega, by omega⟩
    · refine m_here h ⟨by omega, by omega⟩ ?_
      rw [zl_48, zl_57]
      refine m_in (by omega) (by omega) (by omega) (fun c3 c4 => one_ne ?_) (fun c3 => zero_eq ?_)
      · have hdg2 : dg (ch (q + 1 + 1)) = true := dg_iff.2 ⟨c3, c4⟩
        have hl2 := h.1.lt (p := q + 1 + 1) (by omega)
        rw [if_pos ⟨by omega, hdg2⟩] at h1
        refine ⟨zI_in (by omega) (by omega) (by decide), m_here h ⟨by omega, by omega⟩ ⟨zI_in (by omega) (by omega) (by decide), fun σ18 e18 σ19 e19 v20 e20 => ?_⟩⟩
        have hz2 : MS σ (upd f x.toNat (zI (ch (q + 1) - 48))) (q + 1 + 1) 33 x.toNat = zI (ch (q + 1) - 48) := by
          show upd f x.toNat (zI (ch (q + 1) - 48)) x.toNat = _
          unfold upd
          rw [if_pos rfl]
        rw [zI_nat hx.1 (by omega), hz2, zl_10, zI_mul, zI_add, zI_sub, MS_f, fa_upd2, show 10 * (ch (q + 1) - 48) + ch (q + 1 + 1) - 48 = (ch (q + 1) - 48) * 10 + ch (q + 1 + 1) - 48 by omega] at e18
        subst e18
        rw [MS_18, zl_1, zI_add, MS_q, show q + 1 + 1 + 1 = q + 1 + 2 by omega] at e19
        rw [zl_1, zI_add] at e20
        subst e19; subst e20
        show wpS_X5_figures_34 K (wlp (wpF_X5_figures_34 K) 0) (zI x) (zI w) (zI (0 + 1 + 1)) (MS σ (upd f x.toNat (zI ((ch (q + 1) - 48) * 10 + ch (q + 1 + 1) - 48))) (q + 1 + 2))
        unfold wpS_X5_figures_34
        exact br_le (by omega) (by omega) (fun _ => h1 _ _ rfl ⟨by omega, by omega⟩) (fun c => absurd c (by omega))
      · have hdg2 : ¬ dg (ch (q + 1 + 1)) = true := fun z => c3 (dg_iff.1 z)
        rw [if_neg (fun z => hdg2 z.2)] at h1
        exact h1 _ _ rfl ⟨by omega, by omega⟩
  · have hdg : ¬ dg (ch (q + 1)) = true := fun z => c1 (dg_iff.1 z)
    rw [if_neg hdg] at h0
    exact h0 (q + 1) rfl
end H0

def WL_8 : List Int := [116, 101]
theorem wl_8 : ∀ i < 2, sch 8 (zI (i : Nat)) = zI (WL_8.getD i 0) := by decide +kernel
theorem m_wordL_8 {K : Int32 → Mem → Prop} {ch : Int → Int} {n : Int} {σ : Mem} {f : Nat → Int32} {R : List Int} (h : TM σ ch n) : ∀ (D : List Int) (i q : Int), WL_8.drop i.toNat = D → 0 ≤ i → i + D.length = 2 → (0 ≤ q ∧ q ≤ n) → (∀ d ∈ D, (0 ≤ d ∧ d < 256) ∧ ¬ (d = 35 ∨ d = 37)) →
    (rd ch (D ++ R) q = rd ch R (q + D.length) → (0 ≤ q + D.length ∧ q + D.length ≤ n) → K 1 (MS σ f (q + D.length))) → (∀ q', rd ch (D ++ R) q = (false, q', []) → K 0 (MS σ f q')) → wlp (wpF_X5_isWord_8_14 K) (D.length + 1) (zI i, MS σ f q)
  | [], i, q, hD, hi, hil, hq, hd, h1, h0 => by
    show wpS_X5_isWord_8_14 K _ (zI i) (MS σ f q)
    have e : i = 2 := by
      rw [show (([] : List Int).length : Int) = 0 from rfl] at hil
      omega
    subst e
    rw [show q + (([] : List Int).length : Int) = q from Int.add_zero q] at h1
    exact ⟨fun _ => h1 rfl hq, fun c => absurd (by decide) c⟩
  | d :: ds, i, q, hD, hi, hil, hq, hd, h1, h0 => by
    have hdd := hd d List.mem_cons_self
    have hil2 : i + ds.length + 1 = 2 := by
      rw [List.length_cons] at hil
      omega
    have hget : WL_8.getD i.toNat 0 = d := by
      rw [List.getD_eq_getElem?_getD, ← Nat.add_zero i.toNat, ← List.getElem?_drop, hD]
      rfl
    have hdrop : WL_8.drop (i + 1).toNat = ds := by
      rw [show (i + 1).toNat = i.toNat + 1 by omega, ← List.drop_drop, hD]
      rfl
    have hsch : sch 8 (zI i) = zI d := by
      have := wl_8 i.toNat (by omega)
      rw [show ((i.toNat : Nat) : Int) = i by omega, hget] at this
      exact this
    show wpS_X5_isWord_8_14 K (wlp (wpF_X5_isWord_8_14 K) (ds.length + 1)) (zI i) (MS σ f q)
    unfold wpS_X5_isWord_8_14
    refine br_le (x := 2) (by omega) (by omega) (fun c => absurd c (by omega)) (fun _ => ⟨zI_in (by omega) (by omega) (by decide), ?_⟩)
    rw [hsch]
    refine m_skips h hq hdd.1 (fun e hq1 => one_ne' (fun v6 e6 => ?_)) (fun e => zero_eq' (h0 q (rd_no hdd.2 e)))
    rw [zl_1, zI_add] at e6
    subst e6
    have hgo : rd ch ((d :: ds) ++ R) q = rd ch (ds ++ R) (q + 1) := rd_go hdd.2 e
    rw [hgo, show q + ((d :: ds).length : Int) = q + 1 + ds.length by rw [List.length_cons]; omega] at h1
    rw [hgo] at h0
    exact m_wordL_8 h ds (i + 1) (q + 1) hdrop (by omega) (by omega) ⟨by omega, hq1⟩ (fun x hx => hd x (List.mem_cons_of_mem _ hx)) h1 h0
theorem m_isWord_8 {K : Int32 → Mem → Prop} {ch : Int → Int} {n m q : Int} {σ : Mem} {f : Nat → Int32} {R : List Int} {k : Int32} (h : TM σ ch n) (hm : σ 25 20 = zI m) (hm2 : 0 ≤ m ∧ m ≤ 8) (hq : 0 ≤ q ∧ q ≤ n)
    (h1 : rd ch (WL_8 ++ R) q = rd ch R (q + 2) → (0 ≤ q + 2 ∧ q + 2 ≤ n) → K 1 (MS σ (upd f (4 * m).toNat k) (q + 2))) (h0 : ∀ q', rd ch (WL_8 ++ R) q = (false, q', []) → K 0 (MS σ (upd f (4 * m).toNat k) q')) : wp_X5_isWord_8 k (MS σ f q) K := by
  unfold wp_X5_isWord_8
  rw [show MS σ f q 25 20 = σ 25 20 from rfl, hm, zl_4, zI_mul]
  refine ⟨zI_in (by omega) (by omega) (by decide), fun σ1 e1 => ⟨3, ?_⟩⟩
  rw [zI_nat (by omega) (by omega), MS_f] at e1
  subst e1
  exact m_wordL_8 (R := R) h WL_8 0 q rfl (by decide) (by decide) hq (by decide) h1 h0

def WL_9 : List Int := [97, 114, 100]
theorem wl_9 : ∀ i < 3, sch 9 (zI (i : Nat)) = zI (WL_9.getD i 0) := by decide +kernel
theorem m_wordL_9 {K : Int32 → Mem → Prop} {ch : Int → Int} {n : Int} {σ : Mem} {f : Nat → Int32} {R : List Int} (h : TM σ ch n) : ∀ (D : List Int) (i q : Int), WL_9.drop i.toNat = D → 0 ≤ i → i + D.length = 3 → (0 ≤ q ∧ q ≤ n) → (∀ d ∈ D, (0 ≤ d ∧ d < 256) ∧ ¬ (d = 35 ∨ d = 37)) →
    (rd ch (D ++ R) q = rd ch R (q + D.length) → (0 ≤ q + D.length ∧ q + D.length ≤ n) → K 1 (MS σ f (q + D.length))) → (∀ q', rd ch (D ++ R) q = (false, q', []) → K 0 (MS σ f q')) → wlp (wpF_X5_isWord_9_14 K) (D.length + 1) (zI i, MS σ f q)
  | [], i, q, hD, hi, hil, hq, hd, h1, h0 => by
    show wpS_X5_isWord_9_14 K _ (zI i) (MS σ f q)
    have e : i = 3 := by
      rw [show (([] : List Int).length : Int) = 0 from rfl] at hil
      omega
    subst e
    rw [show q + (([] : List Int).length : Int) = q from Int.add_zero q] at h1
    exact ⟨fun _ => h1 rfl hq, fun c => absurd (by decide) c⟩
  | d :: ds, i, q, hD, hi, hil, hq, hd, h1, h0 => by
    have hdd := hd d List.mem_cons_self
    have hil2 : i + ds.length + 1 = 3 := by
      rw [List.length_cons] at hil
      omega
    have hget : WL_9.getD i.toNat 0 = d := by
      rw [List.getD_eq_getElem?_getD, ← Nat.add_zero i.toNat, ← List.getElem?_drop, hD]
      rfl
    have hdrop : WL_9.drop (i + 1).toNat = ds := by
      rw [show (i + 1).toNat = i.toNat + 1 by omega, ← List.drop_drop, hD]
      rfl
    have hsch : sch 9 (zI i) = zI d := by
      have := wl_9 i.toNat (by omega)
      rw [show ((i.toNat : Nat) : Int) = i by omega, hget] at this
      exact this
    show wpS_X5_isWord_9_14 K (wlp (wpF_X5_isWord_9_14 K) (ds.length + 1)) (zI i) (MS σ f q)
    unfold wpS_X5_isWord_9_14
    refine br_le (x := 3) (by omega) (by omega) (fun c => absurd c (by omega)) (fun _ => ⟨zI_in (by omega) (by omega) (by decide), ?_⟩)
    rw [hsch]
    refine m_skips h hq hdd.1 (fun e hq1 => one_ne' (fun v6 e6 => ?_)) (fun e => zero_eq' (h0 q (rd_no hdd.2 e)))
    rw [zl_1, zI_add] at e6
    subst e6
    have hgo : rd ch ((d :: ds) ++ R) q = rd ch (ds ++ R) (q + 1) := rd_go hdd.2 e
    rw [hgo, show q + ((d :: ds).length : Int) = q + 1 + ds.length by rw [List.length_cons]; omega] at h1
    rw [hgo] at h0
    exact m_wordL_9 h ds (i + 1) (q + 1) hdrop (by omega) (by omega) ⟨by omega, hq1⟩ (fun x hx => hd x (List.mem_cons_of_mem _ hx)) h1 h0
theorem m_isWord_9 {K : Int32 → Mem → Prop} {ch : Int → Int} {n m q : Int} {σ : Mem} {f : Nat → Int32} {R : List Int} {k : Int32} (h : TM σ ch n) (hm : σ 25 20 = zI m) (hm2 : 0 ≤ m ∧ m ≤ 8) (hq : 0 ≤ q ∧ q ≤ n)
    (h1 : rd ch (WL_9 ++ R) q = rd ch R (q + 3) → (0 ≤ q + 3 ∧ q + 3 ≤ n) → K 1 (MS σ (upd f (4 * m).toNat k) (q + 3))) (h0 : ∀ q', rd ch (WL_9 ++ R) q = (false, q', []) → K 0 (MS σ (upd f (4 * m).toNat k) q')) : wp_X5_isWord_9 k (MS σ f q) K := by
  unfold wp_X5_isWord_9
  rw [show MS σ f q 25 20 = σ 25 20 from rfl, hm, zl_4, zI_mul]
  refine ⟨zI_in (by omega) (by omega) (by decide), fun σ1 e1 => ⟨4, ?_⟩⟩
  rw [zI_nat (by omega) (by omega), MS_f] at e1
  subst e1
  exact m_wordL_9 (R := R) h WL_9 0 q rfl (by decide) (by decide) hq (by decide) h1 h0

def WL_10 : List Int := [101, 101]
theorem wl_10 : ∀ i < 2, sch 10 (zI (i : Nat)) = zI (WL_10.getD i 0) := by decide +kernel
theorem m_wordL_10 {K : Int32 → Mem → Prop} {ch : Int → Int} {n : Int} {σ : Mem} {f : Nat → Int32} {R : List Int} (h : TM σ ch n) : ∀ (D : List Int) (i q : Int), WL_10.drop i.toNat = D → 0 ≤ i → i + D.length = 2 → (0 ≤ q ∧ q ≤ n) → (∀ d ∈ D, (0 ≤ d ∧ d < 256) ∧ ¬ (d = 35 ∨ d = 37)) →
    (rd ch (D ++ R) q = rd ch R (q + D.length) → (0 ≤ q + D.length ∧ q + D.length ≤ n) → K 1 (MS σ f (q + D.length))) → (∀ q', rd ch (D ++ R) q = (false, q', []) → K 0 (MS σ f q')) → wlp (wpF_X5_isWord_10_14 K) (D.length + 1) (zI i, MS σ f q)
  | [], i, q, hD, hi, hil, hq, hd, h1, h0 => by
    show wpS_X5_isWord_10_14 K _ (zI i) (MS σ f q)
    have e : i = 2 := by
      rw [show (([] : List Int).length : Int) = 0 from rfl] at hil
      omega
    subst e
    rw [show q + (([] : List Int).length : Int) = q from Int.add_zero q] at h1
    exact ⟨fun _ => h1 rfl hq, fun c => absurd (by decide) c⟩
  | d :: ds, i, q, hD, hi, hil, hq, hd, h1, h0 => by
    have hdd := hd d List.mem_cons_self
    have hil2 : i + ds.length + 1 = 2 := by
      rw [List.length_cons] at hil
      omega
    have hget : WL_10.getD i.toNat 0 = d := by
      rw [List.getD_eq_getElem?_getD, ← Nat.add_zero i.toNat, ← List.getElem?_drop, hD]
      rfl
    have hdrop : WL_10.drop (i + 1).toNat = ds := by
      rw [show (i + 1).toNat = i.toNat + 1 by omega, ← List.drop_drop, hD]
      rfl
    have hsch : sch 10 (zI i) = zI d := by
      have := wl_10 i.toNat (by omega)
      rw [show ((i.toNat : Nat) : Int) = i by omega, hget] at this
      exact this
    show wpS_X5_isWord_10_14 K (wlp (wpF_X5_isWord_10_14 K) (ds.length + 1)) (zI i) (MS σ f q)
    unfold wpS_X5_isWord_10_14
    refine br_le (x := 2) (by omega) (by omega) (fun c => absurd c (by omega)) (fun _ => ⟨zI_in (by omega) (by omega) (by decide), ?_⟩)
    rw [hsch]
    refine m_skips h hq hdd.1 (fun e hq1 => one_ne' (fun v6 e6 => ?_)) (fun e => zero_eq' (h0 q (rd_no hdd.2 e)))
    rw [zl_1, zI_add] at e6
    subst e6
    have hgo : rd ch ((d :: ds) ++ R) q = rd ch (ds ++ R) (q + 1) := rd_go hdd.2 e
    rw [hgo, show q + ((d :: ds).length : Int) = q + 1 + ds.length by rw [List.length_cons]; omega] at h1
    rw [hgo] at h0
    exact m_wordL_10 h ds (i + 1) (q + 1) hdrop (by omega) (by omega) ⟨by omega, hq1⟩ (fun x hx => hd x (List.mem_cons_of_mem _ hx)) h1 h0
theorem m_isWord_10 {K : Int32 → Mem → Prop} {ch : Int → Int} {n m q : Int} {σ : Mem} {f : Nat → Int32} {R : List Int} {k : Int32} (h : TM σ ch n) (hm : σ 25 20 = zI m) (hm2 : 0 ≤ m ∧ m ≤ 8) (hq : 0 ≤ q ∧ q ≤ n)
    (h1 : rd ch (WL_10 ++ R) q = rd ch R (q + 2) → (0 ≤ q + 2 ∧ q + 2 ≤ n) → K 1 (MS σ (upd f (4 * m).toNat k) (q + 2))) (h0 : ∀ q', rd ch (WL_10 ++ R) q = (false, q', []) → K 0 (MS σ (upd f (4 * m).toNat k) q')) : wp_X5_isWord_10 k (MS σ f q) K := by
  unfold wp_X5_isWord_10
  rw [show MS σ f q 25 20 = σ 25 20 from rfl, hm, zl_4, zI_mul]
  refine ⟨zI_in (by omega) (by omega) (by decide), fun σ1 e1 => ⟨3, ?_⟩⟩
  rw [zI_nat (by omega) (by omega), MS_f] at e1
  subst e1
  exact m_wordL_10 (R := R) h WL_10 0 q rfl (by decide) (by decide) hq (by decide) h1 h0

def WL_11 : List Int := [108, 108]
theorem wl_11 : ∀ i < 2, sch 11 (zI (i : Nat)) = zI (WL_11.getD i 0) := by decide +kernel
theorem m_wordL_11 {K : Int32 → Mem → Prop} {ch : Int → Int} {n : Int} {σ : Mem} {f : Nat → Int32} {R : List Int} (h : TM σ ch n) : ∀ (D : List Int) (i q : Int), WL_11.drop i.toNat = D → 0 ≤ i → i + D.length = 2 → (0 ≤ q ∧ q ≤ n) → (∀ d ∈ D, (0 ≤ d ∧ d < 256) ∧ ¬ (d = 35 ∨ d = 37)) →
    (rd ch (D ++ R) q = rd ch R (q + D.length) → (0 ≤ q + D.length ∧ q + D.length ≤ n) → K 1 (MS σ f (q + D.length))) → (∀ q', rd ch (D ++ R) q = (false, q', []) → K 0 (MS σ f q')) → wlp (wpF_X5_isWord_11_14 K) (D.length + 1) (zI i, MS σ f q)
  | [], i, q, hD, hi, hil, hq, hd, h1, h0 => by
    show wpS_X5_isWord_11_14 K _ (zI i) (MS σ f q)
    have e : i = 2 := by
      rw [show (([] : List Int).length : Int) = 0 from rfl] at hil
      omega
    subst e
    rw [show q + (([] : List Int).length : Int) = q from Int.add_zero q] at h1
    exact ⟨fun _ => h1 rfl hq, fun c => absurd (by decide) c⟩
  | d :: ds, i, q, hD, hi, hil, hq, hd, h1, h0 => by
    have hdd := hd d List.mem_cons_self
    have hil2 : i + ds.length + 1 = 2 := by
      rw [List.length_cons] at hil
      omega
    have hget : WL_11.getD i.toNat 0 = d := by
      rw [List.getD_eq_getElem?_getD, ← Nat.add_zero i.toNat, ← List.getElem?_drop, hD]
      rfl
    have hdrop : WL_11.drop (i + 1).toNat = ds := by
      rw [show (i + 1).toNat = i.toNat + 1 by omega, ← List.drop_drop, hD]
      rfl
    have hsch : sch 11 (zI i) = zI d := by
      have := wl_11 i.toNat (by omega)
      rw [show ((i.toNat : Nat) : Int) = i by omega, hget] at this
      exact this
    show wpS_X5_isWord_11_14 K (wlp (wpF_X5_isWord_11_14 K) (ds.length + 1)) (zI i) (MS σ f q)
    unfold wpS_X5_isWord_11_14
    refine br_le (x := 2) (by omega) (by omega) (fun c => absurd c (by omega)) (fun _ => ⟨zI_in (by omega) (by omega) (by decide), ?_⟩)
    rw [hsch]
    refine m_skips h hq hdd.1 (fun e hq1 => one_ne' (fun v6 e6 => ?_)) (fun e => zero_eq' (h0 q (rd_no hdd.2 e)))
    rw [zl_1, zI_add] at e6
    subst e6
    have hgo : rd ch ((d :: ds) ++ R) q = rd ch (ds ++ R) (q + 1) := rd_go hdd.2 e
    rw [hgo, show q + ((d :: ds).length : Int) = q + 1 + ds.length by rw [List.length_cons]; omega] at h1
    rw [hgo] at h0
    exact m_wordL_11 h ds (i + 1) (q + 1) hdrop (by omega) (by omega) ⟨by omega, hq1⟩ (fun x hx => hd x (List.mem_cons_of_mem _ hx)) h1 h0
theorem m_isWord_11 {K : Int32 → Mem → Prop} {ch : Int → Int} {n m q : Int} {σ : Mem} {f : Nat → Int32} {R : List Int} {k : Int32} (h : TM σ ch n) (hm : σ 25 20 = zI m) (hm2 : 0 ≤ m ∧ m ≤ 8) (hq : 0 ≤ q ∧ q ≤ n)
    (h1 : rd ch (WL_11 ++ R) q = rd ch R (q + 2) → (0 ≤ q + 2 ∧ q + 2 ≤ n) → K 1 (MS σ (upd f (4 * m).toNat k) (q + 2))) (h0 : ∀ q', rd ch (WL_11 ++ R) q = (false, q', []) → K 0 (MS σ (upd f (4 * m).toNat k) q')) : wp_X5_isWord_11 k (MS σ f q) K := by
  unfold wp_X5_isWord_11
  rw [show MS σ f q 25 20 = σ 25 20 from rfl, hm, zl_4, zI_mul]
  refine ⟨zI_in (by omega) (by omega) (by decide), fun σ1 e1 => ⟨3, ?_⟩⟩
  rw [zI_nat (by omega) (by omega), MS_f] at e1
  subst e1
  exact m_wordL_11 (R := R) h WL_11 0 q rfl (by decide) (by decide) hq (by decide) h1 h0

def WL_12 : List Int := [111, 100]
theorem wl_12 : ∀ i < 2, sch 12 (zI (i : Nat)) = zI (WL_12.getD i 0) := by decide +kernel
theorem m_wordL_12 {K : Int32 → Mem → Prop} {ch : Int → Int} {n : Int} {σ : Mem} {f : Nat → Int32} {R : List Int} (h : TM σ ch n) : ∀ (D : List Int) (i q : Int), WL_12.drop i.toNat = D → 0 ≤ i → i + D.length = 2 → (0 ≤ q ∧ q ≤ n) → (∀ d ∈ D, (0 ≤ d ∧ d < 256) ∧ ¬ (d = 35 ∨ d = 37)) →
    (rd ch (D ++ R) q = rd ch R (q + D.length) → (0 ≤ q + D.length ∧ q + D.length ≤ n) → K 1 (MS σ f (q + D.length))) → (∀ q', rd ch (D ++ R) q = (false, q', []) → K 0 (MS σ f q')) → wlp (wpF_X5_isWord_12_14 K) (D.length + 1) (zI i, MS σ f q)
  | [], i, q, hD, hi, hil, hq, hd, h1, h0 => by
    show wpS_X5_isWord_12_14 K _ (zI i) (MS σ f q)
    have e : i = 2 := by
      rw [show (([] : List Int).length : Int) = 0 from rfl] at hil
      omega
    subst e
    rw [show q + (([] : List Int).length : Int) = q from Int.add_zero q] at h1
    exact ⟨fun _ => h1 rfl hq, fun c => absurd (by decide) c⟩
  | d :: ds, i, q, hD, hi, hil, hq, hd, h1, h0 => by
    have hdd := hd d List.mem_cons_self
    have hil2 : i + ds.length + 1 = 2 := by
      rw [List.length_cons] at hil
      omega
    have hget : WL_12.getD i.toNat 0 = d := by
      rw [List.getD_eq_getElem?_getD, ← Nat.add_zero i.toNat, ← List.getElem?_drop, hD]
      rfl
    have hdrop : WL_12.drop (i + 1).toNat = ds := by
      rw [show (i + 1).toNat = i.toNat + 1 by omega, ← List.drop_drop, hD]
      rfl
    have hsch : sch 12 (zI i) = zI d := by
      have := wl_12 i.toNat (by omega)
      rw [show ((i.toNat : Nat) : Int) = i by omega, hget] at this
      exact this
    show wpS_X5_isWord_12_14 K (wlp (wpF_X5_isWord_12_14 K) (ds.length + 1)) (zI i) (MS σ f q)
    unfold wpS_X5_isWord_12_14
    refine br_le (x := 2) (by omega) (by omega) (fun c => absurd c (by omega)) (fun _ => ⟨zI_in (by omega) (by omega) (by decide), ?_⟩)
    rw [hsch]
    refine m_skips h hq hdd.1 (fun e hq1 => one_ne' (fun v6 e6 => ?_)) (fun e => zero_eq' (h0 q (rd_no hdd.2 e)))
    rw [zl_1, zI_add] at e6
    subst e6
    have hgo : rd ch ((d :: ds) ++ R) q = rd ch (ds ++ R) (q + 1) := rd_go hdd.2 e
    rw [hgo, show q + ((d :: ds).length : Int) = q + 1 + ds.length by rw [List.length_cons]; omega] at h1
    rw [hgo] at h0
    exact m_wordL_12 h ds (i + 1) (q + 1) hdrop (by omega) (by omega) ⟨by omega, hq1⟩ (fun x hx => hd x (List.mem_cons_of_mem _ hx)) h1 h0
theorem m_isWord_12 {K : Int32 → Mem → Prop} {ch : Int → Int} {n m q : Int} {σ : Mem} {f : Nat → Int32} {R : List Int} {k : Int32} (h : TM σ ch n) (hm : σ 25 20 = zI m) (hm2 : 0 ≤ m ∧ m ≤ 8) (hq : 0 ≤ q ∧ q ≤ n)
    (h1 : rd ch (WL_12 ++ R) q = rd ch R (q + 2) → (0 ≤ q + 2 ∧ q + 2 ≤ n) → K 1 (MS σ (upd f (4 * m).toNat k) (q + 2))) (h0 : ∀ q', rd ch (WL_12 ++ R) q = (false, q', []) → K 0 (MS σ (upd f (4 * m).toNat k) q')) : wp_X5_isWord_12 k (MS σ f q) K := by
  unfold wp_X5_isWord_12
  rw [show MS σ f q 25 20 = σ 25 20 from rfl, hm, zl_4, zI_mul]
  refine ⟨zI_in (by omega) (by omega) (by decide), fun σ1 e1 => ⟨3, ?_⟩⟩
  rw [zI_nat (by omega) (by omega), MS_f] at e1
  subst e1
  exact m_wordL_12 (R := R) h WL_12 0 q rfl (by decide) (by decide) hq (by decide) h1 h0

def WL_13 : List Int := [117, 116, 121]
theorem wl_13 : ∀ i < 3, sch 13 (zI (i : Nat)) = zI (WL_13.getD i 0) := by decide +kernel
theorem m_wordL_13 {K : Int32 → Mem → Prop} {ch : Int → Int} {n : Int} {σ : Mem} {f : Nat → Int32} {R : List Int} (h : TM σ ch n) : ∀ (D : List Int) (i q : Int), WL_13.drop i.toNat = D → 0 ≤ i → i + D.length = 3 → (0 ≤ q ∧ q ≤ n) → (∀ d ∈ D, (0 ≤ d ∧ d < 256) ∧ ¬ (d = 35 ∨ d = 37)) →
    (rd ch (D ++ R) q = rd ch R (q + D.length) → (0 ≤ q + D.length ∧ q + D.length ≤ n) → K 1 (MS σ f (q + D.length))) → (∀ q', rd ch (D ++ R) q = (false, q', []) → K 0 (MS σ f q')) → wlp (wpF_X5_isWord_13_14 K) (D.length + 1) (zI i, MS σ f q)
  | [], i, q, hD, hi, hil, hq, hd, h1, h0 => by
    show wpS_X5_isWord_13_14 K _ (zI i) (MS σ f q)
    have e : i = 3 := by
      rw [show (([] : List Int).length : Int) = 0 from rfl] at hil
      omega
    subst e
    rw [show q + (([] : List Int).length : Int) = q from Int.add_zero q] at h1
    exact ⟨fun _ => h1 rfl hq, fun c => absurd (by decide) c⟩
  | d :: ds, i, q, hD, hi, hil, hq, hd, h1, h0 => by
    have hdd := hd d List.mem_cons_self
    have hil2 : i + ds.length + 1 = 3 := by
      rw [List.length_cons] at hil
      omega
    have hget : WL_13.getD i.toNat 0 = d := by
      rw [List.getD_eq_getElem?_getD, ← Nat.add_zero i.toNat, ← List.getElem?_drop, hD]
      rfl
    have hdrop : WL_13.drop (i + 1).toNat = ds := by
      rw [show (i + 1).toNat = i.toNat + 1 by omega, ← List.drop_drop, hD]
      rfl
    have hsch : sch 13 (zI i) = zI d := by
      have := wl_13 i.toNat (by omega)
      rw [show ((i.toNat : Nat) : Int) = i by omega, hget] at this
      exact this
    show wpS_X5_isWord_13_14 K (wlp (wpF_X5_isWord_13_14 K) (ds.length + 1)) (zI i) (MS σ f q)
    unfold wpS_X5_isWord_13_14
    refine br_le (x := 3) (by omega) (by omega) (fun c => absurd c (by omega)) (fun _ => ⟨zI_in (by omega) (by omega) (by decide), ?_⟩)
    rw [hsch]
    refine m_skips h hq hdd.1 (fun e hq1 => one_ne' (fun v6 e6 => ?_)) (fun e => zero_eq' (h0 q (rd_no hdd.2 e)))
    rw [zl_1, zI_add] at e6
    subst e6
    have hgo : rd ch ((d :: ds) ++ R) q = rd ch (ds ++ R) (q + 1) := rd_go hdd.2 e
    rw [hgo, show q + ((d :: ds).length : Int) = q + 1 + ds.length by rw [List.length_cons]; omega] at h1
    rw [hgo] at h0
    exact m_wordL_13 h ds (i + 1) (q + 1) hdrop (by omega) (by omega) ⟨by omega, hq1⟩ (fun x hx => hd x (List.mem_cons_of_mem _ hx)) h1 h0
theorem m_isWord_13 {K : Int32 → Mem → Prop} {ch : Int → Int} {n m q : Int} {σ : Mem} {f : Nat → Int32} {R : List Int} {k : Int32} (h : TM σ ch n) (hm : σ 25 20 = zI m) (hm2 : 0 ≤ m ∧ m ≤ 8) (hq : 0 ≤ q ∧ q ≤ n)
    (h1 : rd ch (WL_13 ++ R) q = rd ch R (q + 3) → (0 ≤ q + 3 ∧ q + 3 ≤ n) → K 1 (MS σ (upd f (4 * m).toNat k) (q + 3))) (h0 : ∀ q', rd ch (WL_13 ++ R) q = (false, q', []) → K 0 (MS σ (upd f (4 * m).toNat k) q')) : wp_X5_isWord_13 k (MS σ f q) K := by
  unfold wp_X5_isWord_13
  rw [show MS σ f q 25 20 = σ 25 20 from rfl, hm, zl_4, zI_mul]
  refine ⟨zI_in (by omega) (by omega) (by decide), fun σ1 e1 => ⟨4, ?_⟩⟩
  rw [zI_nat (by omega) (by omega), MS_f] at e1
  subst e1
  exact m_wordL_13 (R := R) h WL_13 0 q rfl (by decide) (by decide) hq (by decide) h1 h0

def WL_14 : List Int := [101, 97, 118, 101]
theorem wl_14 : ∀ i < 4, sch 14 (zI (i : Nat)) = zI (WL_14.getD i 0) := by decide +kernel
theorem m_wordL_14 {K : Int32 → Mem → Prop} {ch : Int → Int} {n : Int} {σ : Mem} {f : Nat → Int32} {R : List Int} (h : TM σ ch n) : ∀ (D : List Int) (i q : Int), WL_14.drop i.toNat = D → 0 ≤ i → i + D.length = 4 → (0 ≤ q ∧ q ≤ n) → (∀ d ∈ D, (0 ≤ d ∧ d < 256) ∧ ¬ (d = 35 ∨ d = 37)) →
    (rd ch (D ++ R) q = rd ch R (q + D.length) → (0 ≤ q + D.length ∧ q + D.length ≤ n) → K 1 (MS σ f (q + D.length))) → (∀ q', rd ch (D ++ R) q = (false, q', []) → K 0 (MS σ f q')) → wlp (wpF_X5_isWord_14_14 K) (D.length + 1) (zI i, MS σ f q)
  | [], i, q, hD, hi, hil, hq, hd, h1, h0 => by
    show wpS_X5_isWord_14_14 K _ (zI i) (MS σ f q)
    have e : i = 4 := by
      rw [show (([] : List Int).length : Int) = 0 from rfl] at hil
      omega
    subst e
    rw [show q + (([] : List Int).length : Int) = q from Int.add_zero q] at h1
    exact ⟨fun _ => h1 rfl hq, fun c => absurd (by decide) c⟩
  | d :: ds, i, q, hD, hi, hil, hq, hd, h1, h0 => by
    have hdd := hd d List.mem_cons_self
    have hil2 : i + ds.length + 1 = 4 := by
      rw [List.length_cons] at hil
      omega
    have hget : WL_14.getD i.toNat 0 = d := by
      rw [List.getD_eq_getElem?_getD, ← Nat.add_zero i.toNat, ← List.getElem?_drop, hD]
      rfl
    have hdrop : WL_14.drop (i + 1).toNat = ds := by
      rw [show (i + 1).toNat = i.toNat + 1 by omega, ← List.drop_drop, hD]
      rfl
    have hsch : sch 14 (zI i) = zI d := by
      have := wl_14 i.toNat (by omega)
      rw [show ((i.toNat : Nat) : Int) = i by omega, hget] at this
      exact this
    show wpS_X5_isWord_14_14 K (wlp (wpF_X5_isWord_14_14 K) (ds.length + 1)) (zI i) (MS σ f q)
    unfold wpS_X5_isWord_14_14
    refine br_le (x := 4) (by omega) (by omega) (fun c => absurd c (by omega)) (fun _ => ⟨zI_in (by omega) (by omega) (by decide), ?_⟩)
    rw [hsch]
    refine m_skips h hq hdd.1 (fun e hq1 => one_ne' (fun v6 e6 => ?_)) (fun e => zero_eq' (h0 q (rd_no hdd.2 e)))
    rw [zl_1, zI_add] at e6
    subst e6
    have hgo : rd ch ((d :: ds) ++ R) q = rd ch (ds ++ R) (q + 1) := rd_go hdd.2 e
    rw [hgo, show q + ((d :: ds).length : Int) = q + 1 + ds.length by rw [List.length_cons]; omega] at h1
    rw [hgo] at h0
    exact m_wordL_14 h ds (i + 1) (q + 1) hdrop (by omega) (by omega) ⟨by omega, hq1⟩ (fun x hx => hd x (List.mem_cons_of_mem _ hx)) h1 h0
theorem m_isWord_14 {K : Int32 → Mem → Prop} {ch : Int → Int} {n m q : Int} {σ : Mem} {f : Nat → Int32} {R : List Int} {k : Int32} (h : TM σ ch n) (hm : σ 25 20 = zI m) (hm2 : 0 ≤ m ∧ m ≤ 8) (hq : 0 ≤ q ∧ q ≤ n)
    (h1 : rd ch (WL_14 ++ R) q = rd ch R (q + 4) → (0 ≤ q + 4 ∧ q + 4 ≤ n) → K 1 (MS σ (upd f (4 * m).toNat k) (q + 4))) (h0 : ∀ q', rd ch (WL_14 ++ R) q = (false, q', []) → K 0 (MS σ (upd f (4 * m).toNat k) q')) : wp_X5_isWord_14 k (MS σ f q) K := by
  unfold wp_X5_isWord_14
  rw [show MS σ f q 25 20 = σ 25 20 from rfl, hm, zl_4, zI_mul]
  refine ⟨zI_in (by omega) (by omega) (by decide), fun σ1 e1 => ⟨5, ?_⟩⟩
  rw [zI_nat (by omega) (by omega), MS_f] at e1
  subst e1
  exact m_wordL_14 (R := R) h WL_14 0 q rfl (by decide) (by decide) hq (by decide) h1 h0

def WL_15 : List Int := [97, 115, 115]
theorem wl_15 : ∀ i < 3, sch 15 (zI (i : Nat)) = zI (WL_15.getD i 0) := by decide +kernel
theorem m_wordL_15 {K : Int32 → Mem → Prop} {ch : Int → Int} {n : Int} {σ : Mem} {f : Nat → Int32} {R : List Int} (h : TM σ ch n) : ∀ (D : List Int) (i q : Int), WL_15.drop i.toNat = D → 0 ≤ i → i + D.length = 3 → (0 ≤ q ∧ q ≤ n) → (∀ d ∈ D, (0 ≤ d ∧ d < 256) ∧ ¬ (d = 35 ∨ d = 37)) →
    (rd ch (D ++ R) q = rd ch R (q + D.length) → (0 ≤ q + D.length ∧ q + D.length ≤ n) → K 1 (MS σ f (q + D.length))) → (∀ q', rd ch (D ++ R) q = (false, q', []) → K 0 (MS σ f q')) → wlp (wpF_X5_isWord_15_14 K) (D.length + 1) (zI i, MS σ f q)
  | [], i, q, hD, hi, hil, hq, hd, h1, h0 => by
    show wpS_X5_isWord_15_14 K _ (zI i) (MS σ f q)
    have e : i = 3 := by
      rw [show (([] : List Int).length : Int) = 0 from rfl] at hil
      omega
    subst e
    rw [show q + (([] : List Int).length : Int) = q from Int.add_zero q] at h1
    exact ⟨fun _ => h1 rfl hq, fun c => absurd (by decide) c⟩
  | d :: ds, i, q, hD, hi, hil, hq, hd, h1, h0 => by
    have hdd := hd d List.mem_cons_self
    have hil2 : i + ds.length + 1 = 3 := by
      rw [List.length_cons] at hil
      omega
    have hget : WL_15.getD i.toNat 0 = d := by
      rw [List.getD_eq_getElem?_getD, ← Nat.add_zero i.toNat, ← List.getElem?_drop, hD]
      rfl
    have hdrop : WL_15.drop (i + 1).toNat = ds := by
      rw [show (i + 1).toNat = i.toNat + 1 by omega, ← List.drop_drop, hD]
      rfl
    have hsch : sch 15 (zI i) = zI d := by
      have := wl_15 i.toNat (by omega)
      rw [show ((i.toNat : Nat) : Int) = i by omega, hget] at this
      exact this
    show wpS_X5_isWord_15_14 K (wlp (wpF_X5_isWord_15_14 K) (ds.length + 1)) (zI i) (MS σ f q)
    unfold wpS_X5_isWord_15_14
    refine br_le (x := 3) (by omega) (by omega) (fun c => absurd c (by omega)) (fun _ => ⟨zI_in (by omega) (by omega) (by decide), ?_⟩)
    rw [hsch]
    refine m_skips h hq hdd.1 (fun e hq1 => one_ne' (fun v6 e6 => ?_)) (fun e => zero_eq' (h0 q (rd_no hdd.2 e)))
    rw [zl_1, zI_add] at e6
    subst e6
    have hgo : rd ch ((d :: ds) ++ R) q = rd ch (ds ++ R) (q + 1) := rd_go hdd.2 e
    rw [hgo, show q + ((d :: ds).length : Int) = q + 1 + ds.length by rw [List.length_cons]; omega] at h1
    rw [hgo] at h0
    exact m_wordL_15 h ds (i + 1) (q + 1) hdrop (by omega) (by omega) ⟨by omega, hq1⟩ (fun x hx => hd x (List.mem_cons_of_mem _ hx)) h1 h0
theorem m_isWord_15 {K : Int32 → Mem → Prop} {ch : Int → Int} {n m q : Int} {σ : Mem} {f : Nat → Int32} {R : List Int} {k : Int32} (h : TM σ ch n) (hm : σ 25 20 = zI m) (hm2 : 0 ≤ m ∧ m ≤ 8) (hq : 0 ≤ q ∧ q ≤ n)
    (h1 : rd ch (WL_15 ++ R) q = rd ch R (q + 3) → (0 ≤ q + 3 ∧ q + 3 ≤ n) → K 1 (MS σ (upd f (4 * m).toNat k) (q + 3))) (h0 : ∀ q', rd ch (WL_15 ++ R) q = (false, q', []) → K 0 (MS σ (upd f (4 * m).toNat k) q')) : wp_X5_isWord_15 k (MS σ f q) K := by
  unfold wp_X5_isWord_15
  rw [show MS σ f q 25 20 = σ 25 20 from rfl, hm, zl_4, zI_mul]
  refine ⟨zI_in (by omega) (by omega) (by decide), fun σ1 e1 => ⟨4, ?_⟩⟩
  rw [zI_nat (by omega) (by omega), MS_f] at e1
  subst e1
  exact m_wordL_15 (R := R) h WL_15 0 q rfl (by decide) (by decide) hq (by decide) h1 h0

def F4 (m : Int) (f g : Nat → Int32) : Prop := ∀ j : Nat, ¬ (4 * m ≤ j ∧ (j : Int) < 4 * m + 4) → g j = f j
def V4 (m : Int) (g : Nat → Int32) (vs : List Int) : Prop := ∀ j : Nat, j < vs.length → g (4 * m + 1 + j).toNat = zI (vs.getD j 0)
theorem F4_u {m : Int} {f g : Nat → Int32} (h : F4 m f g) {x : Int} (hx : 4 * m ≤ x ∧ x < 4 * m + 4) (hm : 0 ≤ m) (v : Int32) : F4 m f (upd g x.toNat v) := fun j hj => by
  unfold upd
  rw [if_neg (by omega)]
  exact h j hj
theorem upd_e (f : Nat → Int32) (j : Nat) (v : Int32) : upd f j v j = v := if_pos rfl
theorem upd_n (f : Nat → Int32) {i j : Nat} (v : Int32) (h : j ≠ i) : upd f i v j = f j := if_neg h
theorem m_br_0 {K : Int32 → Mem → Prop} {ch : Int → Int} {n m p q : Int} {σ : Mem} {f : Nat → Int32} (h : TM σ ch n) (hm : σ 25 20 = zI m) (hm2 : 0 ≤ m ∧ m ≤ 8) (hq : 0 ≤ q ∧ q ≤ n) (hk : kdn ch p = 0) (hE : res ch p = rd ch (WL_8 ++ [32, 35]) q)
    (h1 : (res ch p).1 = true → ∀ g, F4 m f g → g (4 * m).toNat = zI (kdn ch p) → V4 m g (res ch p).2.2 → K 1 (MS σ g (res ch p).2.1)) (h0 : (res ch p).1 = false → ∀ g, F4 m f g → K 0 (MS σ g (res ch p).2.1)) : wp_X5_isWord_8 (0 : Int32) (MS σ f q) (fun r99 σ100 => ((r99 = (0 : Int32) → K (0 : Int32) σ100) ∧ (¬ r99 = (0 : Int32) → wp_X5_figures (32 : Int32) (zI (4 * m + 1)) (1 : Int32) σ100 (fun r100 σ101 => ((r100 = (0 : Int32) → K (0 : Int32) σ101) ∧ (¬ r100 = (0 : Int32) → K (1 : Int32) σ101)))))) := by
  have hf0 : F4 m f f := fun _ _ => rfl
  have hfk : F4 m f (upd f (4 * m).toNat 0) := F4_u hf0 (by omega) hm2.1 _
  refine m_isWord_8 (R := [32, 35]) h hm hm2 hq (fun e hq1 => one_ne ?_) (fun q' e => zero_eq ?_)
  rotate_left
  · rw [hE, e] at h0
    exact h0 rfl _ hfk
  rw [e] at hE
  refine m_figures (c := 32) (x := 4 * m + 1) (w := 1) (d := 35) (rest := []) h hq1 (by decide) (by decide) (by omega) (by decide) (fun q' e => zero_eq ?_) (fun v0 q0 e hq2 => one_ne ?_)
  · rw [hE, e] at h0
    exact h0 rfl _ hfk
  rw [e] at hE
  have hF0 := F4_u hfk (x := 4 * m + 1) (by omega) hm2.1 (zI v0)
  rw [hE] at h1
  refine h1 rfl _ hF0 ?_ (fun j hj => ?_)
  · rw [upd_n _ _ (by omega), upd_e, hk]
    try rfl
  · have hj2 : j < 1 := hj
    have z : j = 0 := by omega
    subst z
    rw [show (4 * m + 1 + ((0 : Nat) : Int)).toNat = (4 * m + 1).toNat by omega, upd_e]
    rfl
theorem m_br_1 {K : Int32 → Mem → Prop} {ch : Int → Int} {n m p q : Int} {σ : Mem} {f : Nat → Int32} (h : TM σ ch n) (hm : σ 25 20 = zI m) (hm2 : 0 ≤ m ∧ m ≤ 8) (hq : 0 ≤ q ∧ q ≤ n) (hk : kdn ch p = 1) (hE : res ch p = rd ch (WL_9 ++ [32, 35]) q)
    (h1 : (res ch p).1 = true → ∀ g, F4 m f g → g (4 * m).toNat = zI (kdn ch p) → V4 m g (res ch p).2.2 → K 1 (MS σ g (res ch p).2.1)) (h0 : (res ch p).1 = false → ∀ g, F4 m f g → K 0 (MS σ g (res ch p).2.1)) : wp_X5_isWord_9 (1 : Int32) (MS σ f q) (fun r99 σ100 => ((r99 = (0 : Int32) → K (0 : Int32) σ100) ∧ (¬ r99 = (0 : Int32) → wp_X5_figures (32 : Int32) (zI (4 * m + 1)) (1 : Int32) σ100 (fun r100 σ101 => ((r100 = (0 : Int32) → K (0 : Int32) σ101) ∧ (¬ r100 = (0 : Int32) → K (1 : Int32) σ101)))))) := by
  have hf0 : F4 m f f := fun _ _ => rfl
  have hfk : F4 m f (upd f (4 * m).toNat 1) := F4_u hf0 (by omega) hm2.1 _
  refine m_isWord_9 (R := [32, 35]) h hm hm2 hq (fun e hq1 => one_ne ?_) (fun q' e => zero_eq ?_)
  rotate_left
  · rw [hE, e] at h0
    exact h0 rfl _ hfk
  rw [e] at hE
  refine m_figures (c := 32) (x := 4 * m + 1) (w := 1) (d := 35) (rest := []) h hq1 (by decide) (by decide) (by omega) (by decide) (fun q' e => zero_eq ?_) (fun v0 q0 e hq2 => one_ne ?_)
  · rw [hE, e] at h0
    exact h0 rfl _ hfk
  rw [e] at hE
  have hF0 := F4_u hfk (x := 4 * m + 1) (by omega) hm2.1 (zI v0)
  rw [hE] at h1
  refine h1 rfl _ hF0 ?_ (fun j hj => ?_)
  · rw [upd_n _ _ (by omega), upd_e, hk]
    try rfl
  · have hj2 : j < 1 := hj
    have z : j = 0 := by omega
    subst z
    rw [show (4 * m + 1 + ((0 : Nat) : Int)).toNat = (4 * m + 1).toNat by omega, upd_e]
    rfl
theorem m_br_2 {K : Int32 → Mem → Prop} {ch : Int → Int} {n m p q : Int} {σ : Mem} {f : Nat → Int32} (h : TM σ ch n) (hm : σ 25 20 = zI m) (hm2 : 0 ≤ m ∧ m ≤ 8) (hq : 0 ≤ q ∧ q ≤ n) (hk : kdn ch p = 2) (hE : res ch p = rd ch (WL_13 ++ [32, 35, 64, 37, 61, 35]) q)
    (h1 : (res ch p).1 = true → ∀ g, F4 m f g → g (4 * m).toNat = zI (kdn ch p) → V4 m g (res ch p).2.2 → K 1 (MS σ g (res ch p).2.1)) (h0 : (res ch p).1 = false → ∀ g, F4 m f g → K 0 (MS σ g (res ch p).2.1)) : wp_X5_isWord_13 (2 : Int32) (MS σ f q) (fun r99 σ100 => ((r99 = (0 : Int32) → K (0 : Int32) σ100) ∧ (¬ r99 = (0 : Int32) → wp_X5_figures (32 : Int32) (zI (4 * m + 1)) (1 : Int32) σ100 (fun r100 σ101 => ((r100 = (0 : Int32) → K (0 : Int32) σ101) ∧ (¬ r100 = (0 : Int32) → wp_X5_figures (64 : Int32) (zI (4 * m + 1) + (1 : Int32)) (2 : Int32) σ101 (fun r101 σ102 => ((r101 = (0 : Int32) → K (0 : Int32) σ102) ∧ (¬ r101 = (0 : Int32) → wp_X5_figures (61 : Int32) (zI (4 * m + 1) + (2 : Int32)) (1 : Int32) σ102 (fun r102 σ103 => ((r102 = (0 : Int32) → K (0 : Int32) σ103) ∧ (¬ r102 = (0 : Int32) → K (1 : Int32) σ103)))))))))))) := by
  have hf0 : F4 m f f := fun _ _ => rfl
  have hfk : F4 m f (upd f (4 * m).toNat 2) := F4_u hf0 (by omega) hm2.1 _
  refine m_isWord_13 (R := [32, 35, 64, 37, 61, 35]) h hm hm2 hq (fun e hq1 => one_ne ?_) (fun q' e => zero_eq ?_)
  rotate_left
  · rw [hE, e] at h0
    exact h0 rfl _ hfk
  rw [e] at hE
  refine m_figures (c := 32) (x := 4 * m + 1) (w := 1) (d := 35) (rest := [64, 37, 61, 35]) h hq1 (by decide) (by decide) (by omega) (by decide) (fun q' e => zero_eq ?_) (fun v0 q0 e hq2 => one_ne ?_)
  · rw [hE, e] at h0
    exact h0 rfl _ hfk
  rw [e] at hE
  have hF0 := F4_u hfk (x := 4 * m + 1) (by omega) hm2.1 (zI v0)
  rw [zl_1, zI_add]
  refine m_figures (c := 64) (x := 4 * m + 1 + 1) (w := 2) (d := 37) (rest := [61, 35]) h hq2 (by decide) (by decide) (by omega) (by decide) (fun q' e => zero_eq ?_) (fun v1 q1 e hq3 => one_ne ?_)
  · rw [hE, e] at h0
    exact h0 rfl _ hF0
  rw [e] at hE
  have hF1 := F4_u hF0 (x := 4 * m + 1 + 1) (by omega) hm2.1 (zI v1)
  rw [zl_2, zI_add]
  refine m_figures (c := 61) (x := 4 * m + 1 + 2) (w := 1) (d := 35) (rest := []) h hq3 (by decide) (by decide) (by omega) (by decide) (fun q' e => zero_eq ?_) (fun v2 q2 e hq4 => one_ne ?_)
  · rw [hE, e] at h0
    exact h0 rfl _ hF1
  rw [e] at hE
  have hF2 := F4_u hF1 (x := 4 * m + 1 + 2) (by omega) hm2.1 (zI v2)
  rw [hE] at h1
  refine h1 rfl _ hF2 ?_ (fun j hj => ?_)
  · rw [upd_n _ _ (by omega), upd_n _ _ (by omega), upd_n _ _ (by omega), upd_e, hk]
    try rfl
  · have hj2 : j < 3 := hj
    rcases (by omega : j = 0 ∨ j = 1 ∨ j = 2) with z | z | z
    · subst z
      rw [show (4 * m + 1 + ((0 : Nat) : Int)).toNat = (4 * m + 1).toNat by omega, upd_n _ _ (by omega), upd_n _ _ (by omega), upd_e]
      rfl
    · subst z
      rw [show (4 * m + 1 + ((1 : Nat) : Int)).toNat = (4 * m + 1 + 1).toNat by omega, upd_n _ _ (by omega), upd_e]
      rfl
    · subst z
      rw [show (4 * m + 1 + ((2 : Nat) : Int)).toNat = (4 * m + 1 + 2).toNat by omega, upd_e]
      rfl
theorem m_br_3 {K : Int32 → Mem → Prop} {ch : Int → Int} {n m p q : Int} {σ : Mem} {f : Nat → Int32} (h : TM σ ch n) (hm : σ 25 20 = zI m) (hm2 : 0 ≤ m ∧ m ≤ 8) (hq : 0 ≤ q ∧ q ≤ n) (hk : kdn ch p = 3) (hE : res ch p = rd ch (WL_10 ++ [32, 35, 64, 37]) q)
    (h1 : (res ch p).1 = true → ∀ g, F4 m f g → g (4 * m).toNat = zI (kdn ch p) → V4 m g (res ch p).2.2 → K 1 (MS σ g (res ch p).2.1)) (h0 : (res ch p).1 = false → ∀ g, F4 m f g → K 0 (MS σ g (res ch p).2.1)) : wp_X5_isWord_10 (3 : Int32) (MS σ f q) (fun r99 σ100 => ((r99 = (0 : Int32) → K (0 : Int32) σ100) ∧ (¬ r99 = (0 : Int32) → wp_X5_figures (32 : Int32) (zI (4 * m + 1)) (1 : Int32) σ100 (fun r100 σ101 => ((r100 = (0 : Int32) → K (0 : Int32) σ101) ∧ (¬ r100 = (0 : Int32) → wp_X5_figures (64 : Int32) (zI (4 * m + 1) + (1 : Int32)) (2 : Int32) σ101 (fun r101 σ102 => ((r101 = (0 : Int32) → K (0 : Int32) σ102) ∧ (¬ r101 = (0 : Int32) → K (1 : Int32) σ102))))))))) := by
  have hf0 : F4 m f f := fun _ _ => rfl
  have hfk : F4 m f (upd f (4 * m).toNat 3) := F4_u hf0 (by omega) hm2.1 _
  refine m_isWord_10 (R := [32, 35, 64, 37]) h hm hm2 hq (fun e hq1 => one_ne ?_) (fun q' e => zero_eq ?_)
  rotate_left
  · rw [hE, e] at h0
    exact h0 rfl _ hfk
  rw [e] at hE
  refine m_figures (c := 32) (x := 4 * m + 1) (w := 1) (d := 35) (rest := [64, 37]) h hq1 (by decide) (by decide) (by omega) (by decide) (fun q' e => zero_eq ?_) (fun v0 q0 e hq2 => one_ne ?_)
  · rw [hE, e] at h0
    exact h0 rfl _ hfk
  rw [e] at hE
  have hF0 := F4_u hfk (x := 4 * m + 1) (by omega) hm2.1 (zI v0)
  rw [zl_1, zI_add]
  refine m_figures (c := 64) (x := 4 * m + 1 + 1) (w := 2) (d := 37) (rest := []) h hq2 (by decide) (by decide) (by omega) (by decide) (fun q' e => zero_eq ?_) (fun v1 q1 e hq3 => one_ne ?_)
  · rw [hE, e] at h0
    exact h0 rfl _ hF0
  rw [e] at hE
  have hF1 := F4_u hF0 (x := 4 * m + 1 + 1) (by omega) hm2.1 (zI v1)
  rw [hE] at h1
  refine h1 rfl _ hF1 ?_ (fun j hj => ?_)
  · rw [upd_n _ _ (by omega), upd_n _ _ (by omega), upd_e, hk]
    try rfl
  · have hj2 : j < 2 := hj
    rcases (by omega : j = 0 ∨ j = 1) with z | z
    · subst z
      rw [show (4 * m + 1 + ((0 : Nat) : Int)).toNat = (4 * m + 1).toNat by omega, upd_n _ _ (by omega), upd_e]
      rfl
    · subst z
      rw [show (4 * m + 1 + ((1 : Nat) : Int)).toNat = (4 * m + 1 + 1).toNat by omega, upd_e]
      rfl
theorem m_br_4 {K : Int32 → Mem → Prop} {ch : Int → Int} {n m p q : Int} {σ : Mem} {f : Nat → Int32} (h : TM σ ch n) (hm : σ 25 20 = zI m) (hm2 : 0 ≤ m ∧ m ≤ 8) (hq : 0 ≤ q ∧ q ≤ n) (hk : kdn ch p = 4) (hE : res ch p = rd ch (WL_14 ++ [32, 35, 32, 37, 45, 37]) q)
    (h1 : (res ch p).1 = true → ∀ g, F4 m f g → g (4 * m).toNat = zI (kdn ch p) → V4 m g (res ch p).2.2 → K 1 (MS σ g (res ch p).2.1)) (h0 : (res ch p).1 = false → ∀ g, F4 m f g → K 0 (MS σ g (res ch p).2.1)) : wp_X5_isWord_14 (4 : Int32) (MS σ f q) (fun r99 σ100 => ((r99 = (0 : Int32) → K (0 : Int32) σ100) ∧ (¬ r99 = (0 : Int32) → wp_X5_figures (32 : Int32) (zI (4 * m + 1)) (1 : Int32) σ100 (fun r100 σ101 => ((r100 = (0 : Int32) → K (0 : Int32) σ101) ∧ (¬ r100 = (0 : Int32) → wp_X5_figures (32 : Int32) (zI (4 * m + 1) + (1 : Int32)) (2 : Int32) σ101 (fun r101 σ102 => ((r101 = (0 : Int32) → K (0 : Int32) σ102) ∧ (¬ r101 = (0 : Int32) → wp_X5_figures (45 : Int32) (zI (4 * m + 1) + (2 : Int32)) (2 : Int32) σ102 (fun r102 σ103 => ((r102 = (0 : Int32) → K (0 : Int32) σ103) ∧ (¬ r102 = (0 : Int32) → K (1 : Int32) σ103)))))))))))) := by
  have hf0 : F4 m f f := fun _ _ => rfl
  have hfk : F4 m f (upd f (4 * m).toNat 4) := F4_u hf0 (by omega) hm2.1 _
  refine m_isWord_14 (R := [32, 35, 32, 37, 45, 37]) h hm hm2 hq (fun e hq1 => one_ne ?_) (fun q' e => zero_eq ?_)
  rotate_left
  · rw [hE, e] at h0
    exact h0 rfl _ hfk
  rw [e] at hE
  refine m_figures (c := 32) (x := 4 * m + 1) (w := 1) (d := 35) (rest := [32, 37, 45, 37]) h hq1 (by decide) (by decide) (by omega) (by decide) (fun q' e => zero_eq ?_) (fun v0 q0 e hq2 => one_ne ?_)
  · rw [hE, e] at h0
    exact h0 rfl _ hfk
  rw [e] at hE
  have hF0 := F4_u hfk (x := 4 * m + 1) (by omega) hm2.1 (zI v0)
  rw [zl_1, zI_add]
  refine m_figures (c := 32) (x := 4 * m + 1 + 1) (w := 2) (d := 37) (rest := [45, 37]) h hq2 (by decide) (by decide) (by omega) (by decide) (fun q' e => zero_eq ?_) (fun v1 q1 e hq3 => one_ne ?_)
  · rw [hE, e] at h0
    exact h0 rfl _ hF0
  rw [e] at hE
  have hF1 := F4_u hF0 (x := 4 * m + 1 + 1) (by omega) hm2.1 (zI v1)
  rw [zl_2, zI_add]
  refine m_figures (c := 45) (x := 4 * m + 1 + 2) (w := 2) (d := 37) (rest := []) h hq3 (by decide) (by decide) (by omega) (by decide) (fun q' e => zero_eq ?_) (fun v2 q2 e hq4 => one_ne ?_)
  · rw [hE, e] at h0
    exact h0 rfl _ hF1
  rw [e] at hE
  have hF2 := F4_u hF1 (x := 4 * m + 1 + 2) (by omega) hm2.1 (zI v2)
  rw [hE] at h1
  refine h1 rfl _ hF2 ?_ (fun j hj => ?_)
  · rw [upd_n _ _ (by omega), upd_n _ _ (by omega), upd_n _ _ (by omega), upd_e, hk]
    try rfl
  · have hj2 : j < 3 := hj
    rcases (by omega : j = 0 ∨ j = 1 ∨ j = 2) with z | z | z
    · subst z
      rw [show (4 * m + 1 + ((0 : Nat) : Int)).toNat = (4 * m + 1).toNat by omega, upd_n _ _ (by omega), upd_n _ _ (by omega), upd_e]
      rfl
    · subst z
      rw [show (4 * m + 1 + ((1 : Nat) : Int)).toNat = (4 * m + 1 + 1).toNat by omega, upd_n _ _ (by omega), upd_e]
      rfl
    · subst z
      rw [show (4 * m + 1 + ((2 : Nat) : Int)).toNat = (4 * m + 1 + 2).toNat by omega, upd_e]
      rfl
theorem m_br_5 {K : Int32 → Mem → Prop} {ch : Int → Int} {n m p q : Int} {σ : Mem} {f : Nat → Int32} (h : TM σ ch n) (hm : σ 25 20 = zI m) (hm2 : 0 ≤ m ∧ m ≤ 8) (hq : 0 ≤ q ∧ q ≤ n) (hk : kdn ch p = 5) (hE : res ch p = rd ch (WL_11 ++ [32, 37]) q)
    (h1 : (res ch p).1 = true → ∀ g, F4 m f g → g (4 * m).toNat = zI (kdn ch p) → V4 m g (res ch p).2.2 → K 1 (MS σ g (res ch p).2.1)) (h0 : (res ch p).1 = false → ∀ g, F4 m f g → K 0 (MS σ g (res ch p).2.1)) : wp_X5_isWord_11 (5 : Int32) (MS σ f q) (fun r99 σ100 => ((r99 = (0 : Int32) → K (0 : Int32) σ100) ∧ (¬ r99 = (0 : Int32) → wp_X5_figures (32 : Int32) (zI (4 * m + 1)) (2 : Int32) σ100 (fun r100 σ101 => ((r100 = (0 : Int32) → K (0 : Int32) σ101) ∧ (¬ r100 = (0 : Int32) → K (1 : Int32) σ101)))))) := by
  have hf0 : F4 m f f := fun _ _ => rfl
  have hfk : F4 m f (upd f (4 * m).toNat 5) := F4_u hf0 (by omega) hm2.1 _
  refine m_isWord_11 (R := [32, 37]) h hm hm2 hq (fun e hq1 => one_ne ?_) (fun q' e => zero_eq ?_)
  rotate_left
  · rw [hE, e] at h0
    exact h0 rfl _ hfk
  rw [e] at hE
  refine m_figures (c := 32) (x := 4 * m + 1) (w := 2) (d := 37) (rest := []) h hq1 (by decide) (by decide) (by omega) (by decide) (fun q' e => zero_eq ?_) (fun v0 q0 e hq2 => one_ne ?_)
  · rw [hE, e] at h0
    exact h0 rfl _ hfk
  rw [e] at hE
  have hF0 := F4_u hfk (x := 4 * m + 1) (by omega) hm2.1 (zI v0)
  rw [hE] at h1
  refine h1 rfl _ hF0 ?_ (fun j hj => ?_)
  · rw [upd_n _ _ (by omega), upd_e, hk]
    try rfl
  · have hj2 : j < 1 := hj
    have z : j = 0 := by omega
    subst z
    rw [show (4 * m + 1 + ((0 : Nat) : Int)).toNat = (4 * m + 1).toNat by omega, upd_e]
    rfl
theorem m_br_6 {K : Int32 → Mem → Prop} {ch : Int → Int} {n m p q : Int} {σ : Mem} {f : Nat → Int32} (h : TM σ ch n) (hm : σ 25 20 = zI m) (hm2 : 0 ≤ m ∧ m ≤ 8) (hq : 0 ≤ q ∧ q ≤ n) (hk : kdn ch p = 6) (hE : res ch p = rd ch (WL_12 ++ [32, 37]) q)
    (h1 : (res ch p).1 = true → ∀ g, F4 m f g → g (4 * m).toNat = zI (kdn ch p) → V4 m g (res ch p).2.2 → K 1 (MS σ g (res ch p).2.1)) (h0 : (res ch p).1 = false → ∀ g, F4 m f g → K 0 (MS σ g (res ch p).2.1)) : wp_X5_isWord_12 (6 : Int32) (MS σ f q) (fun r99 σ100 => ((r99 = (0 : Int32) → K (0 : Int32) σ100) ∧ (¬ r99 = (0 : Int32) → wp_X5_figures (32 : Int32) (zI (4 * m + 1)) (2 : Int32) σ100 (fun r100 σ101 => ((r100 = (0 : Int32) → K (0 : Int32) σ101) ∧ (¬ r100 = (0 : Int32) → K (1 : Int32) σ101)))))) := by
  have hf0 : F4 m f f := fun _ _ => rfl
  have hfk : F4 m f (upd f (4 * m).toNat 6) := F4_u hf0 (by omega) hm2.1 _
  refine m_isWord_12 (R := [32, 37]) h hm hm2 hq (fun e hq1 => one_ne ?_) (fun q' e => zero_eq ?_)
  rotate_left
  · rw [hE, e] at h0
    exact h0 rfl _ hfk
  rw [e] at hE
  refine m_figures (c := 32) (x := 4 * m + 1) (w := 2) (d := 37) (rest := []) h hq1 (by decide) (by decide) (by omega) (by decide) (fun q' e => zero_eq ?_) (fun v0 q0 e hq2 => one_ne ?_)
  · rw [hE, e] at h0
    exact h0 rfl _ hfk
  rw [e] at hE
  have hF0 := F4_u hfk (x := 4 * m + 1) (by omega) hm2.1 (zI v0)
  rw [hE] at h1
  refine h1 rfl _ hF0 ?_ (fun j hj => ?_)
  · rw [upd_n _ _ (by omega), upd_e, hk]
    try rfl
  · have hj2 : j < 1 := hj
    have z : j = 0 := by omega
    subst z
    rw [show (4 * m + 1 + ((0 : Nat) : Int)).toNat = (4 * m + 1).toNat by omega, upd_e]
    rfl
theorem m_br_7 {K : Int32 → Mem → Prop} {ch : Int → Int} {n m p q : Int} {σ : Mem} {f : Nat → Int32} (h : TM σ ch n) (hm : σ 25 20 = zI m) (hm2 : 0 ≤ m ∧ m ≤ 8) (hq : 0 ≤ q ∧ q ≤ n) (hk : kdn ch p = 7) (hE : res ch p = rd ch (WL_15 ++ [32, 37]) q)
    (h1 : (res ch p).1 = true → ∀ g, F4 m f g → g (4 * m).toNat = zI (kdn ch p) → V4 m g (res ch p).2.2 → K 1 (MS σ g (res ch p).2.1)) (h0 : (res ch p).1 = false → ∀ g, F4 m f g → K 0 (MS σ g (res ch p).2.1)) : wp_X5_isWord_15 (7 : Int32) (MS σ f q) (fun r99 σ100 => ((r99 = (0 : Int32) → K (0 : Int32) σ100) ∧ (¬ r99 = (0 : Int32) → wp_X5_figures (32 : Int32) (zI (4 * m + 1)) (2 : Int32) σ100 (fun r100 σ101 => ((r100 = (0 : Int32) → K (0 : Int32) σ101) ∧ (¬ r100 = (0 : Int32) → K (1 : Int32) σ101)))))) := by
  have hf0 : F4 m f f := fun _ _ => rfl
  have hfk : F4 m f (upd f (4 * m).toNat 7) := F4_u hf0 (by omega) hm2.1 _
  refine m_isWord_15 (R := [32, 37]) h hm hm2 hq (fun e hq1 => one_ne ?_) (fun q' e => zero_eq ?_)
  rotate_left
  · rw [hE, e] at h0
    exact h0 rfl _ hfk
  rw [e] at hE
  refine m_figures (c := 32) (x := 4 * m + 1) (w := 2) (d := 37) (rest := []) h hq1 (by decide) (by decide) (by omega) (by decide) (fun q' e => zero_eq ?_) (fun v0 q0 e hq2 => one_ne ?_)
  · rw [hE, e] at h0
    exact h0 rfl _ hfk
  rw [e] at hE
  have hF0 := F4_u hfk (x := 4 * m + 1) (by omega) hm2.1 (zI v0)
  rw [hE] at h1
  refine h1 rfl _ hF0 ?_ (fun j hj => ?_)
  · rw [upd_n _ _ (by omega), upd_e, hk]
    try rfl
  · have hj2 : j < 1 := hj
    have z : j = 0 := by omega
    subst z
    rw [show (4 * m + 1 + ((0 : Nat) : Int)).toNat = (4 * m + 1).toNat by omega, upd_e]
    rfl
