/-! the text: the class's shapes -/
def dg (x : Int) : Bool := decide (48 ≤ x) && decide (x ≤ 57)
theorem dg_iff {x : Int} : dg x = true ↔ (48 ≤ x ∧ x ≤ 57) := by
  unfold dg
  rw [Bool.and_eq_true, decide_eq_true_iff, decide_eq_true_iff]
def cv (v : Int) (r : Bool × Int × List Int) : Bool × Int × List Int := (r.1, r.2.1, v :: r.2.2)
def rd (ch : Int → Int) : List Int → Int → Bool × Int × List Int
  | [], p => (true, p, [])
  | d :: ds, p => if d = 35 ∨ d = 37 then (if dg (ch p) = true then (if d = 37 ∧ dg (ch (p + 1)) = true then cv ((ch p - 48) * 10 + ch (p + 1) - 48) (rd ch ds (p + 2)) else cv (ch p - 48) (rd ch ds (p + 1))) else (false, p, [])) else if ch p = d then rd ch ds (p + 1) else (false, p, [])
def nv : List Int → Int
  | [] => 0
  | d :: ds => (if d = 35 ∨ d = 37 then 1 else 0) + nv ds
theorem nv_0 : ∀ D : List Int, 0 ≤ nv D
  | [] => Int.le_refl _
  | d :: ds => by
    have := nv_0 ds
    unfold nv
    split <;> omega
/-- the characters of a text of n: -1 where there is none -/
def TX (ch : Int → Int) (n : Int) : Prop := (0 ≤ n ∧ n ≤ 60) ∧ (∀ p, ¬ (0 ≤ p ∧ p < n) → ch p = -1) ∧ (∀ p, -1 ≤ ch p ∧ ch p < 65536) ∧ ∀ p, 0 ≤ p → p < n → 0 ≤ ch p
def TC (σ : Mem) (ch : Int → Int) (n : Int) : Prop := TX ch n ∧ σ 19 1 = zI n ∧ ∀ p, 0 ≤ p → p < n → σ 20 p.toNat = zI (ch p)
theorem TX.lt {ch : Int → Int} {n p : Int} (h : TX ch n) (hp : ch p ≠ -1) : 0 ≤ p ∧ p < n := by
  by_cases c : 0 ≤ p ∧ p < n
  · exact c
  · exact absurd (h.2.1 p c) hp
section R0
variable {σ : Mem} {K : Int32 → Mem → Prop} {ch : Int → Int} {n : Int}
theorem q_characterAt (h : TC σ ch n) {p : Int} (hp : -2147483648 ≤ p ∧ p < 2147483648) (hK : K (zI (ch p)) σ) : wp_X0_characterAt (zI p) σ K := by
  have hn := h.1.1
  unfold wp_X0_characterAt
  rw [h.2.1, zl_60]
  by_cases c : 0 ≤ p ∧ p < n
  · refine br_lt0 hp (fun x => absurd x (by omega)) (fun _ => br_le (by omega) hp (fun x => absurd x (by omega)) (fun _ => br_le (by omega) hp (fun x => absurd x (by omega)) (fun _ => ⟨zI_in (by omega) (by omega) (by decide), ?_⟩)))
    rw [zI_nat c.1 (by omega), h.2.2 p c.1 c.2]
    exact hK
  · rw [h.1.2.1 p c] at hK
    refine br_lt0 hp (fun _ => hK) (fun _ => br_le (by omega) hp (fun _ => hK) (fun _ => br_le (by omega) hp (fun x => hK) (fun _ => absurd (⟨by omega, by omega⟩ : 0 ≤ p ∧ p < n) c)))
theorem q_isDigit {x : Int} (hx : -1 ≤ x ∧ x < 65536) (h1 : dg x = true → K 1 σ) (h0 : dg x = false → K 0 σ) : wp_X0_isDigit (zI x) σ K := by
  have hf : ¬ (48 ≤ x ∧ x ≤ 57) → dg x = false := fun c => by
    rw [Bool.eq_false_iff]
    exact fun y => c (dg_iff.1 y)
  unfold wp_X0_isDigit
  rw [zl_48, zl_57]
  refine br_lt (by omega) (by omega) (fun c => h0 (hf (by omega))) (fun c => br_lt (by omega) (by omega) (fun c2 => h0 (hf (by omega))) (fun c2 => h1 (dg_iff.2 ⟨c, c2⟩)))
theorem q_keepValue {K : Mem → Prop} {m t : Int} {v : Int32} (hm : 0 ≤ m ∧ m ≤ 8) (e : σ 19 4 = zI m) (ht : 0 ≤ t ∧ t < 3) (h : K (st σ 22 (3 * m + t).toNat v)) : wp_X0_keepValue (zI t) v σ K := by
  unfold wp_X0_keepValue
  intro v1 e1
  rw [e, zl_3, zI_mul, zI_add] at e1
  subst e1
  rw [zl_27]
  refine br_lt0 (by omega) (fun c => absurd c (by omega)) (fun _ => br_le (by omega) (by omega) (fun c => absurd c (by omega)) (fun _ => ⟨zI_in (by omega) (by omega) (by decide), fun σ4 e4 => ?_⟩))
  rw [zI_nat (by omega) (by omega), show m * 3 + t = 3 * m + t by omega] at e4
  subst e4
  exact h
def FO (c : Nat → Int32) (m t : Int) (f : Nat → Int32) : Prop := ∀ j : Nat, ¬ (3 * m + t ≤ j ∧ (j : Int) < 3 * m + 3) → f j = c j
def VO (f : Nat → Int32) (m t : Int) (vs : List Int) : Prop := ∀ j : Nat, j < vs.length → f (3 * m + t + j).toNat = zI (vs.getD j 0)
end R0

def LS_0 : List Int := [103, 97, 116, 101, 32, 35]
theorem ls_0 : ∀ i < 6, sch 0 (zI (i : Nat)) = zI (LS_0.getD i 0) := by decide +kernel
theorem q_rdL_0 {K : Int32 → Mem → Prop} {ch : Int → Int} {n m : Int} (hm : 0 ≤ m ∧ m ≤ 8) : ∀ (D : List Int) (i p t : Int) (σ : Mem), TC σ ch n → σ 19 4 = zI m → LS_0.drop i.toNat = D → 0 ≤ i → i + D.length = 6 → (0 ≤ p ∧ p ≤ n) → 0 ≤ t → t + nv D ≤ 3 → (∀ d ∈ D, 0 ≤ d ∧ d < 256) →
    ((rd ch D p).1 = true → ∀ f, FO (σ 22) m t f → VO f m t (rd ch D p).2.2 → K (zI (rd ch D p).2.1) (va_up σ 22 f)) → ((rd ch D p).1 = false → ∀ f, FO (σ 22) m t f → K (-1) (st (va_up σ 22 f) 19 5 (zI (rd ch D p).2.1))) → wlp (wpF_X0_readShape_0_8 K) (D.length + 1) (zI p, zI t, zI i, σ)
  | [], i, p, t, σ, hT, hc, hD, hi, hil, hp, ht, htn, hd, h1, h0 => by
    show wpS_X0_readShape_0_8 K _ (zI p) (zI t) (zI i) σ
    have := h1 rfl (σ 22) (fun _ _ => rfl) (fun j hj => absurd hj (Nat.not_lt_zero j))
    rw [up_s] at this
    have e : i = 6 := by
      rw [show (([] : List Int).length : Int) = 0 from rfl] at hil
      omega
    subst e
    exact ⟨fun _ => this, fun c => absurd (by decide) c⟩
  | d :: ds, i, p, t, σ, hT, hc, hD, hi, hil, hp, ht, htn, hd, h1, h0 => by
    have hn := hT.1.1
    have hcp := hT.1.2.2.1 p
    have hcp1 := hT.1.2.2.1 (p + 1)
    have hdd := hd d List.mem_cons_self
    have hnv := nv_0 ds
    have hil2 : i + ds.length + 1 = 6 := by
      rw [List.length_cons] at hil
      omega
    have hnv2 : nv (d :: ds) = (if d = 35 ∨ d = 37 then 1 else 0) + nv ds := rfl
    have hget : LS_0.getD i.toNat 0 = d := by
      rw [List.getD_eq_getElem?_getD, ← Nat.add_zero i.toNat, ← List.getElem?_drop, hD]
      rfl
    have hdrop : LS_0.drop (i + 1).toNat = ds := by
      rw [show (i + 1).toNat = i.toNat + 1 by omega, ← List.drop_drop, hD]
      rfl
    have hsch : sch 0 (zI i) = zI d := by
      have := ls_0 i.toNat (by omega)
      rw [show ((i.toNat : Nat) : Int) = i by omega, hget] at this
      exact this
    have hrd : rd ch (d :: ds) p = if d = 35 ∨ d = 37 then (if dg (ch p) = true then (if d = 37 ∧ dg (ch (p + 1)) = true then cv ((ch p - 48) * 10 + ch (p + 1) - 48) (rd ch ds (p + 2)) else cv (ch p - 48) (rd ch ds (p + 1))) else (false, p, [])) else if ch p = d then rd ch ds (p + 1) else (false, p, []) := rfl
    rw [hrd] at h1 h0
    have hds : ∀ x ∈ ds, 0 ≤ x ∧ x < 256 := fun x hx => hd x (List.mem_cons_of_mem _ hx)
    have hFail : (rd ch (d :: ds) p) = (false, p, []) → wpJ_X0_readShape_0_76 K (zI p) σ := fun e => by
      rw [← hrd, e] at h0
      intro σ22 e22
      subst e22
      have := h0 rfl (σ 22) (fun _ _ => rfl)
      rw [up_s] at this
      exact this
    have hKeep : ∀ (q w : Int), (0 ≤ q ∧ q ≤ n) → (d = 35 ∨ d = 37) → rd ch (d :: ds) p = cv w (rd ch ds q) → wpJ_X0_readShape_0_136 K (wlp (wpF_X0_readShape_0_8 K) (ds.length + 1)) (zI q) (zI t) (zI i) (zI w) σ := fun q w hq hv e => by
      rw [← hrd, e] at h1 h0
      rw [if_pos hv] at hnv2
      unfold wpJ_X0_readShape_0_136 wpJ_X0_readShape_0_147
      refine q_keepValue hm hc ⟨ht, by omega⟩ (fun v16 e16 v10 e10 => ?_)
      rw [zl_1, zI_add] at e16 e10
      subst e16; subst e10
      have hfo : ∀ f, FO (st σ 22 (3 * m + t).toNat (zI w) 22) m (t + 1) f → FO (σ 22) m t f ∧ f (3 * m + t).toNat = zI w := fun f hf => by
        refine ⟨fun j hj => ?_, ?_⟩
        · rw [hf j (by omega), st_j _ _ _ (by omega)]
        · rw [hf _ (by omega), st_e]
      refine q_rdL_0 hm ds (i + 1) q (t + 1) (st σ 22 (3 * m + t).toNat (zI w)) hT hc hdrop (by omega) (by omega) hq (by omega) (by omega) hds (fun c f hf hv2 => ?_) (fun c f hf => ?_)
      · rw [up_up]
        refine h1 c f (hfo f hf).1 (fun j hj => ?_)
        cases j with
        | zero =>
          rw [show (3 * m + t + ((0 : Nat) : Int)).toNat = (3 * m + t).toNat by omega]
          exact (hfo f hf).2
        | succ j =>
          have := hv2 j (by
            have : (cv w (rd ch ds q)).2.2.length = (rd ch ds q).2.2.length + 1 := rfl
            omega)
          rw [show (3 * m + t + ((j + 1 : Nat) : Int)).toNat = (3 * m + (t + 1) + (j : Int)).toNat by omega]
          exact this
      · rw [up_up]
        exact h0 c f (hfo f hf).1
    show wpS_X0_readShape_0_8 K (wlp (wpF_X0_readShape_0_8 K) (ds.length + 1)) (zI p) (zI t) (zI i) σ
    unfold wpS_X0_readShape_0_8 wpJ_X0_readShape_0_46
    refine br_le (x := 6) (by omega) (by omega) (fun c => absurd c (by omega)) (fun _ => ⟨zI_in (by omega) (by omega) (by decide), fun v2 e2 => ?_⟩)
    rw [hsch] at e2
    subst e2
    refine q_characterAt hT (by omega) ?_
    have hVal : (d = 35 ∨ d = 37) → wpJ_X0_readShape_0_51 K (wlp (wpF_X0_readShape_0_8 K) (ds.length + 1)) (zI p) (zI t) (zI i) (zI d) (zI (ch p)) 1 σ := fun hv => by
      unfold wpJ_X0_readShape_0_51 wpJ_X0_readShape_0_66
      refine one_ne (q_isDigit hcp (fun c => one_ne' ?_) (fun c => zero_eq' (hFail (by rw [hrd, if_pos hv, if_neg (by rw [c]; decide)]))))
      have hpn := hT.1.lt (p := p) (by have := dg_iff.1 c; omega)
      have hcr := dg_iff.1 c
      unfold wpJ_X0_readShape_0_83
      intro v8 e8
      rw [zl_1, zI_add] at e8
      subst e8
      refine one_ne (fun v11 e11 => ?_)
      rw [zl_48, zI_sub] at e11
      subst e11
      refine q_characterAt hT (by omega) ?_
      refine br_ne (y := 37) (by omega) (by omega) (fun c2 => ?_) (fun c2 => ?_)
      · refine q_isDigit hcp1 (fun c3 => one_ne ?_) (fun c3 => zero_eq ?_)
        · have hcr1 := dg_iff.1 c3
          have hpn1 := hT.1.lt (p := p + 1) (by omega)
          intro v20 e20 v21 e21
          rw [zl_10, zI_mul, zI_add, zl_48, zI_sub] at e20
          rw [zl_1, zI_add, show p + 1 + 1 = p + 2 by omega] at e21
          subst e20; subst e21
          exact hKeep (p + 2) _ ⟨by omega, by omega⟩ hv (by rw [hrd, if_pos hv, if_pos c, if_pos ⟨c2, c3⟩])
        · exact hKeep (p + 1) _ ⟨by omega, by omega⟩ hv (by rw [hrd, if_pos hv, if_pos c, if_neg (fun x => by rw [c3] at x; exact absurd x.2 (by decide))])
      · exact hKeep (p + 1) _ ⟨by omega, by omega⟩ hv (by rw [hrd, if_pos hv, if_pos c, if_neg (fun x => c2 x.1)])
    refine br_eq (y := 35) (by omega) (by omega) (fun c => hVal (Or.inl c)) (fun c => ?_)
    refine br_ne (y := 37) (by omega) (by omega) (fun c2 => hVal (Or.inr c2)) (fun c2 => ?_)
    have hnv3 : ¬ (d = 35 ∨ d = 37) := fun x => x.elim c c2
    unfold wpJ_X0_readShape_0_51
    refine zero_eq (br_eq (by omega) (by omega) (fun c3 => ?_) (fun c3 => hFail (by rw [hrd, if_neg hnv3, if_neg c3])))
    have hpn := hT.1.lt (p := p) (by omega)
    rw [if_neg hnv3, if_pos c3] at h1 h0
    rw [if_neg hnv3] at hnv2
    unfold wpJ_X0_readShape_0_83 wpJ_X0_readShape_0_147
    intro v8 e8
    rw [zl_1, zI_add] at e8
    subst e8
    refine zero_eq (fun v10 e10 => ?_)
    rw [zl_1, zI_add] at e10
    subst e10
    exact q_rdL_0 hm ds (i + 1) (p + 1) t σ hT hc hdrop (by omega) (by omega) ⟨by omega, by omega⟩ ht (by omega) hds h1 h0
theorem q_readShape_0 {K : Int32 → Mem → Prop} {ch : Int → Int} {n m : Int} {σ : Mem} (hm : 0 ≤ m ∧ m ≤ 8) (hT : TC σ ch n) (hc : σ 19 4 = zI m) {p : Int} (hp : 0 ≤ p ∧ p ≤ n)
    (h1 : (rd ch LS_0 p).1 = true → ∀ f, FO (σ 22) m 0 f → VO f m 0 (rd ch LS_0 p).2.2 → K (zI (rd ch LS_0 p).2.1) (va_up σ 22 f)) (h0 : (rd ch LS_0 p).1 = false → ∀ f, FO (σ 22) m 0 f → K (-1) (st (va_up σ 22 f) 19 5 (zI (rd ch LS_0 p).2.1))) : wp_X0_readShape_0 (zI p) σ K :=
  ⟨7, q_rdL_0 hm LS_0 0 p 0 σ hT hc rfl (by decide) (by decide) hp (by decide) (by decide) (by decide) h1 h0⟩

def LS_1 : List Int := [103, 117, 97, 114, 100, 32, 35]
theorem ls_1 : ∀ i < 7, sch 1 (zI (i : Nat)) = zI (LS_1.getD i 0) := by decide +kernel
theorem q_rdL_1 {K : Int32 → Mem → Prop} {ch : Int → Int} {n m : Int} (hm : 0 ≤ m ∧ m ≤ 8) : ∀ (D : List Int) (i p t : Int) (σ : Mem), TC σ ch n → σ 19 4 = zI m → LS_1.drop i.toNat = D → 0 ≤ i → i + D.length = 7 → (0 ≤ p ∧ p ≤ n) → 0 ≤ t → t + nv D ≤ 3 → (∀ d ∈ D, 0 ≤ d ∧ d < 256) →
    ((rd ch D p).1 = true → ∀ f, FO (σ 22) m t f → VO f m t (rd ch D p).2.2 → K (zI (rd ch D p).2.1) (va_up σ 22 f)) → ((rd ch D p).1 = false → ∀ f, FO (σ 22) m t f → K (-1) (st (va_up σ 22 f) 19 5 (zI (rd ch D p).2.1))) → wlp (wpF_X0_readShape_1_8 K) (D.length + 1) (zI p, zI t, zI i, σ)
  | [], i, p, t, σ, hT, hc, hD, hi, hil, hp, ht, htn, hd, h1, h0 => by
    show wpS_X0_readShape_1_8 K _ (zI p) (zI t) (zI i) σ
    have := h1 rfl (σ 22) (fun _ _ => rfl) (fun j hj => absurd hj (Nat.not_lt_zero j))
    rw [up_s] at this
    have e : i = 7 := by
      rw [show (([] : List Int).length : Int) = 0 from rfl] at hil
      omega
    subst e
    exact ⟨fun _ => this, fun c => absurd (by decide) c⟩
  | d :: ds, i, p, t, σ, hT, hc, hD, hi, hil, hp, ht, htn, hd, h1, h0 => by
    have hn := hT.1.1
    have hcp := hT.1.2.2.1 p
    have hcp1 := hT.1.2.2.1 (p + 1)
    have hdd := hd d List.mem_cons_self
    have hnv := nv_0 ds
    have hil2 : i + ds.length + 1 = 7 := by
      rw [List.length_cons] at hil
      omega
    have hnv2 : nv (d :: ds) = (if d = 35 ∨ d = 37 then 1 else 0) + nv ds := rfl
    have hget : LS_1.getD i.toNat 0 = d := by
      rw [List.getD_eq_getElem?_getD, ← Nat.add_zero i.toNat, ← List.getElem?_drop, hD]
      rfl
    have hdrop : LS_1.drop (i + 1).toNat = ds := by
      rw [show (i + 1).toNat = i.toNat + 1 by omega, ← List.drop_drop, hD]
      rfl
    have hsch : sch 1 (zI i) = zI d := by
      have := ls_1 i.toNat (by omega)
      rw [show ((i.toNat : Nat) : Int) = i by omega, hget] at this
      exact this
    have hrd : rd ch (d :: ds) p = if d = 35 ∨ d = 37 then (if dg (ch p) = true then (if d = 37 ∧ dg (ch (p + 1)) = true then cv ((ch p - 48) * 10 + ch (p + 1) - 48) (rd ch ds (p + 2)) else cv (ch p - 48) (rd ch ds (p + 1))) else (false, p, [])) else if ch p = d then rd ch ds (p + 1) else (false, p, []) := rfl
    rw [hrd] at h1 h0
    have hds : ∀ x ∈ ds, 0 ≤ x ∧ x < 256 := fun x hx => hd x (List.mem_cons_of_mem _ hx)
    have hFail : (rd ch (d :: ds) p) = (false, p, []) → wpJ_X0_readShape_1_76 K (zI p) σ := fun e => by
      rw [← hrd, e] at h0
      intro σ22 e22
      subst e22
      have := h0 rfl (σ 22) (fun _ _ => rfl)
      rw [up_s] at this
      exact this
    have hKeep : ∀ (q w : Int), (0 ≤ q ∧ q ≤ n) → (d = 35 ∨ d = 37) → rd ch (d :: ds) p = cv w (rd ch ds q) → wpJ_X0_readShape_1_136 K (wlp (wpF_X0_readShape_1_8 K) (ds.length + 1)) (zI q) (zI t) (zI i) (zI w) σ := fun q w hq hv e => by
      rw [← hrd, e] at h1 h0
      rw [if_pos hv] at hnv2
      unfold wpJ_X0_readShape_1_136 wpJ_X0_readShape_1_147
      refine q_keepValue hm hc ⟨ht, by omega⟩ (fun v16 e16 v10 e10 => ?_)
      rw [zl_1, zI_add] at e16 e10
      subst e16; subst e10
      have hfo : ∀ f, FO (st σ 22 (3 * m + t).toNat (zI w) 22) m (t + 1) f → FO (σ 22) m t f ∧ f (3 * m + t).toNat = zI w := fun f hf => by
        refine ⟨fun j hj => ?_, ?_⟩
        · rw [hf j (by omega), st_j _ _ _ (by omega)]
        · rw [hf _ (by omega), st_e]
      refine q_rdL_1 hm ds (i + 1) q (t + 1) (st σ 22 (3 * m + t).toNat (zI w)) hT hc hdrop (by omega) (by omega) hq (by omega) (by omega) hds (fun c f hf hv2 => ?_) (fun c f hf => ?_)
      · rw [up_up]
        refine h1 c f (hfo f hf).1 (fun j hj => ?_)
        cases j with
        | zero =>
          rw [show (3 * m + t + ((0 : Nat) : Int)).toNat = (3 * m + t).toNat by omega]
          exact (hfo f hf).2
        | succ j =>
          have := hv2 j (by
            have : (cv w (rd ch ds q)).2.2.length = (rd ch ds q).2.2.length + 1 := rfl
            omega)
          rw [show (3 * m + t + ((j + 1 : Nat) : Int)).toNat = (3 * m + (t + 1) + (j : Int)).toNat by omega]
          exact this
      · rw [up_up]
        exact h0 c f (hfo f hf).1
    show wpS_X0_readShape_1_8 K (wlp (wpF_X0_readShape_1_8 K) (ds.length + 1)) (zI p) (zI t) (zI i) σ
    unfold wpS_X0_readShape_1_8 wpJ_X0_readShape_1_46
    refine br_le (x := 7) (by omega) (by omega) (fun c => absurd c (by omega)) (fun _ => ⟨zI_in (by omega) (by omega) (by decide), fun v2 e2 => ?_⟩)
    rw [hsch] at e2
    subst e2
    refine q_characterAt hT (by omega) ?_
    have hVal : (d = 35 ∨ d = 37) → wpJ_X0_readShape_1_51 K (wlp (wpF_X0_readShape_1_8 K) (ds.length + 1)) (zI p) (zI t) (zI i) (zI d) (zI (ch p)) 1 σ := fun hv => by
      unfold wpJ_X0_readShape_1_51 wpJ_X0_readShape_1_66
      refine one_ne (q_isDigit hcp (fun c => one_ne' ?_) (fun c => zero_eq' (hFail (by rw [hrd, if_pos hv, if_neg (by rw [c]; decide)]))))
      have hpn := hT.1.lt (p := p) (by have := dg_iff.1 c; omega)
      have hcr := dg_iff.1 c
      unfold wpJ_X0_readShape_1_83
      intro v8 e8
      rw [zl_1, zI_add] at e8
      subst e8
      refine one_ne (fun v11 e11 => ?_)
      rw [zl_48, zI_sub] at e11
      subst e11
      refine q_characterAt hT (by omega) ?_
      refine br_ne (y := 37) (by omega) (by omega) (fun c2 => ?_) (fun c2 => ?_)
      · refine q_isDigit hcp1 (fun c3 => one_ne ?_) (fun c3 => zero_eq ?_)
        · have hcr1 := dg_iff.1 c3
          have hpn1 := hT.1.lt (p := p + 1) (by omega)
          intro v20 e20 v21 e21
          rw [zl_10, zI_mul, zI_add, zl_48, zI_sub] at e20
          rw [zl_1, zI_add, show p + 1 + 1 = p + 2 by omega] at e21
          subst e20; subst e21
          exact hKeep (p + 2) _ ⟨by omega, by omega⟩ hv (by rw [hrd, if_pos hv, if_pos c, if_pos ⟨c2, c3⟩])
        · exact hKeep (p + 1) _ ⟨by omega, by omega⟩ hv (by rw [hrd, if_pos hv, if_pos c, if_neg (fun x => by rw [c3] at x; exact absurd x.2 (by decide))])
      · exact hKeep (p + 1) _ ⟨by omega, by omega⟩ hv (by rw [hrd, if_pos hv, if_pos c, if_neg (fun x => c2 x.1)])
    refine br_eq (y := 35) (by omega) (by omega) (fun c => hVal (Or.inl c)) (fun c => ?_)
    refine br_ne (y := 37) (by omega) (by omega) (fun c2 => hVal (Or.inr c2)) (fun c2 => ?_)
    have hnv3 : ¬ (d = 35 ∨ d = 37) := fun x => x.elim c c2
    unfold wpJ_X0_readShape_1_51
    refine zero_eq (br_eq (by omega) (by omega) (fun c3 => ?_) (fun c3 => hFail (by rw [hrd, if_neg hnv3, if_neg c3])))
    have hpn := hT.1.lt (p := p) (by omega)
    rw [if_neg hnv3, if_pos c3] at h1 h0
    rw [if_neg hnv3] at hnv2
    unfold wpJ_X0_readShape_1_83 wpJ_X0_readShape_1_147
    intro v8 e8
    rw [zl_1, zI_add] at e8
    subst e8
    refine zero_eq (fun v10 e10 => ?_)
    rw [zl_1, zI_add] at e10
    subst e10
    exact q_rdL_1 hm ds (i + 1) (p + 1) t σ hT hc hdrop (by omega) (by omega) ⟨by omega, by omega⟩ ht (by omega) hds h1 h0
theorem q_readShape_1 {K : Int32 → Mem → Prop} {ch : Int → Int} {n m : Int} {σ : Mem} (hm : 0 ≤ m ∧ m ≤ 8) (hT : TC σ ch n) (hc : σ 19 4 = zI m) {p : Int} (hp : 0 ≤ p ∧ p ≤ n)
    (h1 : (rd ch LS_1 p).1 = true → ∀ f, FO (σ 22) m 0 f → VO f m 0 (rd ch LS_1 p).2.2 → K (zI (rd ch LS_1 p).2.1) (va_up σ 22 f)) (h0 : (rd ch LS_1 p).1 = false → ∀ f, FO (σ 22) m 0 f → K (-1) (st (va_up σ 22 f) 19 5 (zI (rd ch LS_1 p).2.1))) : wp_X0_readShape_1 (zI p) σ K :=
  ⟨8, q_rdL_1 hm LS_1 0 p 0 σ hT hc rfl (by decide) (by decide) hp (by decide) (by decide) (by decide) h1 h0⟩

def LS_2 : List Int := [100, 117, 116, 121, 32, 35, 64, 37, 61, 35]
theorem ls_2 : ∀ i < 10, sch 2 (zI (i : Nat)) = zI (LS_2.getD i 0) := by decide +kernel
theorem q_rdL_2 {K : Int32 → Mem → Prop} {ch : Int → Int} {n m : Int} (hm : 0 ≤ m ∧ m ≤ 8) : ∀ (D : List Int) (i p t : Int) (σ : Mem), TC σ ch n → σ 19 4 = zI m → LS_2.drop i.toNat = D → 0 ≤ i → i + D.length = 10 → (0 ≤ p ∧ p ≤ n) → 0 ≤ t → t + nv D ≤ 3 → (∀ d ∈ D, 0 ≤ d ∧ d < 256) →
    ((rd ch D p).1 = true → ∀ f, FO (σ 22) m t f → VO f m t (rd ch D p).2.2 → K (zI (rd ch D p).2.1) (va_up σ 22 f)) → ((rd ch D p).1 = false → ∀ f, FO (σ 22) m t f → K (-1) (st (va_up σ 22 f) 19 5 (zI (rd ch D p).2.1))) → wlp (wpF_X0_readShape_2_8 K) (D.length + 1) (zI p, zI t, zI i, σ)
  | [], i, p, t, σ, hT, hc, hD, hi, hil, hp, ht, htn, hd, h1, h0 => by
    show wpS_X0_readShape_2_8 K _ (zI p) (zI t) (zI i) σ
    have := h1 rfl (σ 22) (fun _ _ => rfl) (fun j hj => absurd hj (Nat.not_lt_zero j))
    rw [up_s] at this
    have e : i = 10 := by
      rw [show (([] : List Int).length : Int) = 0 from rfl] at hil
      omega
    subst e
    exact ⟨fun _ => this, fun c => absurd (by decide) c⟩
  | d :: ds, i, p, t, σ, hT, hc, hD, hi, hil, hp, ht, htn, hd, h1, h0 => by
    have hn := hT.1.1
    have hcp := hT.1.2.2.1 p
    have hcp1 := hT.1.2.2.1 (p + 1)
    have hdd := hd d List.mem_cons_self
    have hnv := nv_0 ds
    have hil2 : i + ds.length + 1 = 10 := by
      rw [List.length_cons] at hil
      omega
    have hnv2 : nv (d :: ds) = (if d = 35 ∨ d = 37 then 1 else 0) + nv ds := rfl
    have hget : LS_2.getD i.toNat 0 = d := by
      rw [List.getD_eq_getElem?_getD, ← Nat.add_zero i.toNat, ← List.getElem?_drop, hD]
      rfl
    have hdrop : LS_2.drop (i + 1).toNat = ds := by
      rw [show (i + 1).toNat = i.toNat + 1 by omega, ← List.drop_drop, hD]
      rfl
    have hsch : sch 2 (zI i) = zI d := by
      have := ls_2 i.toNat (by omega)
      rw [show ((i.toNat : Nat) : Int) = i by omega, hget] at this
      exact this
    have hrd : rd ch (d :: ds) p = if d = 35 ∨ d = 37 then (if dg (ch p) = true then (if d = 37 ∧ dg (ch (p + 1)) = true then cv ((ch p - 48) * 10 + ch (p + 1) - 48) (rd ch ds (p + 2)) else cv (ch p - 48) (rd ch ds (p + 1))) else (false, p, [])) else if ch p = d then rd ch ds (p + 1) else (false, p, []) := rfl
    rw [hrd] at h1 h0
    have hds : ∀ x ∈ ds, 0 ≤ x ∧ x < 256 := fun x hx => hd x (List.mem_cons_of_mem _ hx)
    have hFail : (rd ch (d :: ds) p) = (false, p, []) → wpJ_X0_readShape_2_76 K (zI p) σ := fun e => by
      rw [← hrd, e] at h0
      intro σ22 e22
      subst e22
      have := h0 rfl (σ 22) (fun _ _ => rfl)
      rw [up_s] at this
      exact this
    have hKeep : ∀ (q w : Int), (0 ≤ q ∧ q ≤ n) → (d = 35 ∨ d = 37) → rd ch (d :: ds) p = cv w (rd ch ds q) → wpJ_X0_readShape_2_136 K (wlp (wpF_X0_readShape_2_8 K) (ds.length + 1)) (zI q) (zI t) (zI i) (zI w) σ := fun q w hq hv e => by
      rw [← hrd, e] at h1 h0
      rw [if_pos hv] at hnv2
      unfold wpJ_X0_readShape_2_136 wpJ_X0_readShape_2_147
      refine q_keepValue hm hc ⟨ht, by omega⟩ (fun v16 e16 v10 e10 => ?_)
      rw [zl_1, zI_add] at e16 e10
      subst e16; subst e10
      have hfo : ∀ f, FO (st σ 22 (3 * m + t).toNat (zI w) 22) m (t + 1) f → FO (σ 22) m t f ∧ f (3 * m + t).toNat = zI w := fun f hf => by
        refine ⟨fun j hj => ?_, ?_⟩
        · rw [hf j (by omega), st_j _ _ _ (by omega)]
        · rw [hf _ (by omega), st_e]
      refine q_rdL_2 hm ds (i + 1) q (t + 1) (st σ 22 (3 * m + t).toNat (zI w)) hT hc hdrop (by omega) (by omega) hq (by omega) (by omega) hds (fun c f hf hv2 => ?_) (fun c f hf => ?_)
      · rw [up_up]
        refine h1 c f (hfo f hf).1 (fun j hj => ?_)
        cases j with
        | zero =>
          rw [show (3 * m + t + ((0 : Nat) : Int)).toNat = (3 * m + t).toNat by omega]
          exact (hfo f hf).2
        | succ j =>
          have := hv2 j (by
            have : (cv w (rd ch ds q)).2.2.length = (rd ch ds q).2.2.length + 1 := rfl
            omega)
          rw [show (3 * m + t + ((j + 1 : Nat) : Int)).toNat = (3 * m + (t + 1) + (j : Int)).toNat by omega]
          exact this
      · rw [up_up]
        exact h0 c f (hfo f hf).1
    show wpS_X0_readShape_2_8 K (wlp (wpF_X0_readShape_2_8 K) (ds.length + 1)) (zI p) (zI t) (zI i) σ
    unfold wpS_X0_readShape_2_8 wpJ_X0_readShape_2_46
    refine br_le (x := 10) (by omega) (by omega) (fun c => absurd c (by omega)) (fun _ => ⟨zI_in (by omega) (by omega) (by decide), fun v2 e2 => ?_⟩)
    rw [hsch] at e2
    subst e2
    refine q_characterAt hT (by omega) ?_
    have hVal : (d = 35 ∨ d = 37) → wpJ_X0_readShape_2_51 K (wlp (wpF_X0_readShape_2_8 K) (ds.length + 1)) (zI p) (zI t) (zI i) (zI d) (zI (ch p)) 1 σ := fun hv => by
      unfold wpJ_X0_readShape_2_51 wpJ_X0_readShape_2_66
      refine one_ne (q_isDigit hcp (fun c => one_ne' ?_) (fun c => zero_eq' (hFail (by rw [hrd, if_pos hv, if_neg (by rw [c]; decide)]))))
      have hpn := hT.1.lt (p := p) (by have := dg_iff.1 c; omega)
      have hcr := dg_iff.1 c
      unfold wpJ_X0_readShape_2_83
      intro v8 e8
      rw [zl_1, zI_add] at e8
      subst e8
      refine one_ne (fun v11 e11 => ?_)
      rw [zl_48, zI_sub] at e11
      subst e11
      refine q_characterAt hT (by omega) ?_
      refine br_ne (y := 37) (by omega) (by omega) (fun c2 => ?_) (fun c2 => ?_)
      · refine q_isDigit hcp1 (fun c3 => one_ne ?_) (fun c3 => zero_eq ?_)
        · have hcr1 := dg_iff.1 c3
          have hpn1 := hT.1.lt (p := p + 1) (by omega)
          intro v20 e20 v21 e21
          rw [zl_10, zI_mul, zI_add, zl_48, zI_sub] at e20
          rw [zl_1, zI_add, show p + 1 + 1 = p + 2 by omega] at e21
          subst e20; subst e21
          exact hKeep (p + 2) _ ⟨by omega, by omega⟩ hv (by rw [hrd, if_pos hv, if_pos c, if_pos ⟨c2, c3⟩])
        · exact hKeep (p + 1) _ ⟨by omega, by omega⟩ hv (by rw [hrd, if_pos hv, if_pos c, if_neg (fun x => by rw [c3] at x; exact absurd x.2 (by decide))])
      · exact hKeep (p + 1) _ ⟨by omega, by omega⟩ hv (by rw [hrd, if_pos hv, if_pos c, if_neg (fun x => c2 x.1)])
    refine br_eq (y := 35) (by omega) (by omega) (fun c => hVal (Or.inl c)) (fun c => ?_)
    refine br_ne (y := 37) (by omega) (by omega) (fun c2 => hVal (Or.inr c2)) (fun c2 => ?_)
    have hnv3 : ¬ (d = 35 ∨ d = 37) := fun x => x.elim c c2
    unfold wpJ_X0_readShape_2_51
    refine zero_eq (br_eq (by omega) (by omega) (fun c3 => ?_) (fun c3 => hFail (by rw [hrd, if_neg hnv3, if_neg c3])))
    have hpn := hT.1.lt (p := p) (by omega)
    rw [if_neg hnv3, if_pos c3] at h1 h0
    rw [if_neg hnv3] at hnv2
    unfold wpJ_X0_readShape_2_83 wpJ_X0_readShape_2_147
    intro v8 e8
    rw [zl_1, zI_add] at e8
    subst e8
    refine zero_eq (fun v10 e10 => ?_)
    rw [zl_1, zI_add] at e10
    subst e10
    exact q_rdL_2 hm ds (i + 1) (p + 1) t σ hT hc hdrop (by omega) (by omega) ⟨by omega, by omega⟩ ht (by omega) hds h1 h0
theorem q_readShape_2 {K : Int32 → Mem → Prop} {ch : Int → Int} {n m : Int} {σ : Mem} (hm : 0 ≤ m ∧ m ≤ 8) (hT : TC σ ch n) (hc : σ 19 4 = zI m) {p : Int} (hp : 0 ≤ p ∧ p ≤ n)
    (h1 : (rd ch LS_2 p).1 = true → ∀ f, FO (σ 22) m 0 f → VO f m 0 (rd ch LS_2 p).2.2 → K (zI (rd ch LS_2 p).2.1) (va_up σ 22 f)) (h0 : (rd ch LS_2 p).1 = false → ∀ f, FO (σ 22) m 0 f → K (-1) (st (va_up σ 22 f) 19 5 (zI (rd ch LS_2 p).2.1))) : wp_X0_readShape_2 (zI p) σ K :=
  ⟨11, q_rdL_2 hm LS_2 0 p 0 σ hT hc rfl (by decide) (by decide) hp (by decide) (by decide) (by decide) h1 h0⟩

def LS_3 : List Int := [102, 114, 101, 101, 32, 35, 64, 37]
theorem ls_3 : ∀ i < 8, sch 3 (zI (i : Nat)) = zI (LS_3.getD i 0) := by decide +kernel
theorem q_rdL_3 {K : Int32 → Mem → Prop} {ch : Int → Int} {n m : Int} (hm : 0 ≤ m ∧ m ≤ 8) : ∀ (D : List Int) (i p t : Int) (σ : Mem), TC σ ch n → σ 19 4 = zI m → LS_3.drop i.toNat = D → 0 ≤ i → i + D.length = 8 → (0 ≤ p ∧ p ≤ n) → 0 ≤ t → t + nv D ≤ 3 → (∀ d ∈ D, 0 ≤ d ∧ d < 256) →
    ((rd ch D p).1 = true → ∀ f, FO (σ 22) m t f → VO f m t (rd ch D p).2.2 → K (zI (rd ch D p).2.1) (va_up σ 22 f)) → ((rd ch D p).1 = false → ∀ f, FO (σ 22) m t f → K (-1) (st (va_up σ 22 f) 19 5 (zI (rd ch D p).2.1))) → wlp (wpF_X0_readShape_3_8 K) (D.length + 1) (zI p, zI t, zI i, σ)
  | [], i, p, t, σ, hT, hc, hD, hi, hil, hp, ht, htn, hd, h1, h0 => by
    show wpS_X0_readShape_3_8 K _ (zI p) (zI t) (zI i) σ
    have := h1 rfl (σ 22) (fun _ _ => rfl) (fun j hj => absurd hj (Nat.not_lt_zero j))
    rw [up_s] at this
    have e : i = 8 := by
      rw [show (([] : List Int).length : Int) = 0 from rfl] at hil
      omega
    subst e
    exact ⟨fun _ => this, fun c => absurd (by decide) c⟩
  | d :: ds, i, p, t, σ, hT, hc, hD, hi, hil, hp, ht, htn, hd, h1, h0 => by
    have hn := hT.1.1
    have hcp := hT.1.2.2.1 p
    have hcp1 := hT.1.2.2.1 (p + 1)
    have hdd := hd d List.mem_cons_self
    have hnv := nv_0 ds
    have hil2 : i + ds.length + 1 = 8 := by
      rw [List.length_cons] at hil
      omega
    have hnv2 : nv (d :: ds) = (if d = 35 ∨ d = 37 then 1 else 0) + nv ds := rfl
    have hget : LS_3.getD i.toNat 0 = d := by
      rw [List.getD_eq_getElem?_getD, ← Nat.add_zero i.toNat, ← List.getElem?_drop, hD]
      rfl
    have hdrop : LS_3.drop (i + 1).toNat = ds := by
      rw [show (i + 1).toNat = i.toNat + 1 by omega, ← List.drop_drop, hD]
      rfl
    have hsch : sch 3 (zI i) = zI d := by
      have := ls_3 i.toNat (by omega)
      rw [show ((i.toNat : Nat) : Int) = i by omega, hget] at this
      exact this
    have hrd : rd ch (d :: ds) p = if d = 35 ∨ d = 37 then (if dg (ch p) = true then (if d = 37 ∧ dg (ch (p + 1)) = true then cv ((ch p - 48) * 10 + ch (p + 1) - 48) (rd ch ds (p + 2)) else cv (ch p - 48) (rd ch ds (p + 1))) else (false, p, [])) else if ch p = d then rd ch ds (p + 1) else (false, p, []) := rfl
    rw [hrd] at h1 h0
    have hds : ∀ x ∈ ds, 0 ≤ x ∧ x < 256 := fun x hx => hd x (List.mem_cons_of_mem _ hx)
    have hFail : (rd ch (d :: ds) p) = (false, p, []) → wpJ_X0_readShape_3_76 K (zI p) σ := fun e => by
      rw [← hrd, e] at h0
      intro σ22 e22
      subst e22
      have := h0 rfl (σ 22) (fun _ _ => rfl)
      rw [up_s] at this
      exact this
    have hKeep : ∀ (q w : Int), (0 ≤ q ∧ q ≤ n) → (d = 35 ∨ d = 37) → rd ch (d :: ds) p = cv w (rd ch ds q) → wpJ_X0_readShape_3_136 K (wlp (wpF_X0_readShape_3_8 K) (ds.length + 1)) (zI q) (zI t) (zI i) (zI w) σ := fun q w hq hv e => by
      rw [← hrd, e] at h1 h0
      rw [if_pos hv] at hnv2
      unfold wpJ_X0_readShape_3_136 wpJ_X0_readShape_3_147
      refine q_keepValue hm hc ⟨ht, by omega⟩ (fun v16 e16 v10 e10 => ?_)
      rw [zl_1, zI_add] at e16 e10
      subst e16; subst e10
      have hfo : ∀ f, FO (st σ 22 (3 * m + t).toNat (zI w) 22) m (t + 1) f → FO (σ 22) m t f ∧ f (3 * m + t).toNat = zI w := fun f hf => by
        refine ⟨fun j hj => ?_, ?_⟩
        · rw [hf j (by omega), st_j _ _ _ (by omega)]
        · rw [hf _ (by omega), st_e]
      refine q_rdL_3 hm ds (i + 1) q (t + 1) (st σ 22 (3 * m + t).toNat (zI w)) hT hc hdrop (by omega) (by omega) hq (by omega) (by omega) hds (fun c f hf hv2 => ?_) (fun c f hf => ?_)
      · rw [up_up]
        refine h1 c f (hfo f hf).1 (fun j hj => ?_)
        cases j with
        | zero =>
          rw [show (3 * m + t + ((0 : Nat) : Int)).toNat = (3 * m + t).toNat by omega]
          exact (hfo f hf).2
        | succ j =>
          have := hv2 j (by
            have : (cv w (rd ch ds q)).2.2.length = (rd ch ds q).2.2.length + 1 := rfl
            omega)
          rw [show (3 * m + t + ((j + 1 : Nat) : Int)).toNat = (3 * m + (t + 1) + (j : Int)).toNat by omega]
          exact this
      · rw [up_up]
        exact h0 c f (hfo f hf).1
    show wpS_X0_readShape_3_8 K (wlp (wpF_X0_readShape_3_8 K) (ds.length + 1)) (zI p) (zI t) (zI i) σ
    unfold wpS_X0_readShape_3_8 wpJ_X0_readShape_3_46
    refine br_le (x := 8) (by omega) (by omega) (fun c => absurd c (by omega)) (fun _ => ⟨zI_in (by omega) (by omega) (by decide), fun v2 e2 => ?_⟩)
    rw [hsch] at e2
    subst e2
    refine q_characterAt hT (by omega) ?_
    have hVal : (d = 35 ∨ d = 37) → wpJ_X0_readShape_3_51 K (wlp (wpF_X0_readShape_3_8 K) (ds.length + 1)) (zI p) (zI t) (zI i) (zI d) (zI (ch p)) 1 σ := fun hv => by
      unfold wpJ_X0_readShape_3_51 wpJ_X0_readShape_3_66
      refine one_ne (q_isDigit hcp (fun c => one_ne' ?_) (fun c => zero_eq' (hFail (by rw [hrd, if_pos hv, if_neg (by rw [c]; decide)]))))
      have hpn := hT.1.lt (p := p) (by have := dg_iff.1 c; omega)
      have hcr := dg_iff.1 c
      unfold wpJ_X0_readShape_3_83
      intro v8 e8
      rw [zl_1, zI_add] at e8
      subst e8
      refine one_ne (fun v11 e11 => ?_)
      rw [zl_48, zI_sub] at e11
      subst e11
      refine q_characterAt hT (by omega) ?_
      refine br_ne (y := 37) (by omega) (by omega) (fun c2 => ?_) (fun c2 => ?_)
      · refine q_isDigit hcp1 (fun c3 => one_ne ?_) (fun c3 => zero_eq ?_)
        · have hcr1 := dg_iff.1 c3
          have hpn1 := hT.1.lt (p := p + 1) (by omega)
          intro v20 e20 v21 e21
          rw [zl_10, zI_mul, zI_add, zl_48, zI_sub] at e20
          rw [zl_1, zI_add, show p + 1 + 1 = p + 2 by omega] at e21
          subst e20; subst e21
          exact hKeep (p + 2) _ ⟨by omega, by omega⟩ hv (by rw [hrd, if_pos hv, if_pos c, if_pos ⟨c2, c3⟩])
        · exact hKeep (p + 1) _ ⟨by omega, by omega⟩ hv (by rw [hrd, if_pos hv, if_pos c, if_neg (fun x => by rw [c3] at x; exact absurd x.2 (by decide))])
      · exact hKeep (p + 1) _ ⟨by omega, by omega⟩ hv (by rw [hrd, if_pos hv, if_pos c, if_neg (fun x => c2 x.1)])
    refine br_eq (y := 35) (by omega) (by omega) (fun c => hVal (Or.inl c)) (fun c => ?_)
    refine br_ne (y := 37) (by omega) (by omega) (fun c2 => hVal (Or.inr c2)) (fun c2 => ?_)
    have hnv3 : ¬ (d = 35 ∨ d = 37) := fun x => x.elim c c2
    unfold wpJ_X0_readShape_3_51
    refine zero_eq (br_eq (by omega) (by omega) (fun c3 => ?_) (fun c3 => hFail (by rw [hrd, if_neg hnv3, if_neg c3])))
    have hpn := hT.1.lt (p := p) (by omega)
    rw [if_neg hnv3, if_pos c3] at h1 h0
    rw [if_neg hnv3] at hnv2
    unfold wpJ_X0_readShape_3_83 wpJ_X0_readShape_3_147
    intro v8 e8
    rw [zl_1, zI_add] at e8
    subst e8
    refine zero_eq (fun v10 e10 => ?_)
    rw [zl_1, zI_add] at e10
    subst e10
    exact q_rdL_3 hm ds (i + 1) (p + 1) t σ hT hc hdrop (by omega) (by omega) ⟨by omega, by omega⟩ ht (by omega) hds h1 h0
theorem q_readShape_3 {K : Int32 → Mem → Prop} {ch : Int → Int} {n m : Int} {σ : Mem} (hm : 0 ≤ m ∧ m ≤ 8) (hT : TC σ ch n) (hc : σ 19 4 = zI m) {p : Int} (hp : 0 ≤ p ∧ p ≤ n)
    (h1 : (rd ch LS_3 p).1 = true → ∀ f, FO (σ 22) m 0 f → VO f m 0 (rd ch LS_3 p).2.2 → K (zI (rd ch LS_3 p).2.1) (va_up σ 22 f)) (h0 : (rd ch LS_3 p).1 = false → ∀ f, FO (σ 22) m 0 f → K (-1) (st (va_up σ 22 f) 19 5 (zI (rd ch LS_3 p).2.1))) : wp_X0_readShape_3 (zI p) σ K :=
  ⟨9, q_rdL_3 hm LS_3 0 p 0 σ hT hc rfl (by decide) (by decide) hp (by decide) (by decide) (by decide) h1 h0⟩

def LS_4 : List Int := [108, 101, 97, 118, 101, 32, 35, 32, 37, 45, 37]
theorem ls_4 : ∀ i < 11, sch 4 (zI (i : Nat)) = zI (LS_4.getD i 0) := by decide +kernel
theorem q_rdL_4 {K : Int32 → Mem → Prop} {ch : Int → Int} {n m : Int} (hm : 0 ≤ m ∧ m ≤ 8) : ∀ (D : List Int) (i p t : Int) (σ : Mem), TC σ ch n → σ 19 4 = zI m → LS_4.drop i.toNat = D → 0 ≤ i → i + D.length = 11 → (0 ≤ p ∧ p ≤ n) → 0 ≤ t → t + nv D ≤ 3 → (∀ d ∈ D, 0 ≤ d ∧ d < 256) →
    ((rd ch D p).1 = true → ∀ f, FO (σ 22) m t f → VO f m t (rd ch D p).2.2 → K (zI (rd ch D p).2.1) (va_up σ 22 f)) → ((rd ch D p).1 = false → ∀ f, FO (σ 22) m t f → K (-1) (st (va_up σ 22 f) 19 5 (zI (rd ch D p).2.1))) → wlp (wpF_X0_readShape_4_8 K) (D.length + 1) (zI p, zI t, zI i, σ)
  | [], i, p, t, σ, hT, hc, hD, hi, hil, hp, ht, htn, hd, h1, h0 => by
    show wpS_X0_readShape_4_8 K _ (zI p) (zI t) (zI i) σ
    have := h1 rfl (σ 22) (fun _ _ => rfl) (fun j hj => absurd hj (Nat.not_lt_zero j))
    rw [up_s] at this
    have e : i = 11 := by
      rw [show (([] : List Int).length : Int) = 0 from rfl] at hil
      omega
    subst e
    exact ⟨fun _ => this, fun c => absurd (by decide) c⟩
  | d :: ds, i, p, t, σ, hT, hc, hD, hi, hil, hp, ht, htn, hd, h1, h0 => by
    have hn := hT.1.1
    have hcp := hT.1.2.2.1 p
    have hcp1 := hT.1.2.2.1 (p + 1)
    have hdd := hd d List.mem_cons_self
    have hnv := nv_0 ds
    have hil2 : i + ds.length + 1 = 11 := by
      rw [List.length_cons] at hil
      omega
    have hnv2 : nv (d :: ds) = (if d = 35 ∨ d = 37 then 1 else 0) + nv ds := rfl
    have hget : LS_4.getD i.toNat 0 = d := by
      rw [List.getD_eq_getElem?_getD, ← Nat.add_zero i.toNat, ← List.getElem?_drop, hD]
      rfl
    have hdrop : LS_4.drop (i + 1).toNat = ds := by
      rw [show (i + 1).toNat = i.toNat + 1 by omega, ← List.drop_drop, hD]
      rfl
    have hsch : sch 4 (zI i) = zI d := by
      have := ls_4 i.toNat (by omega)
      rw [show ((i.toNat : Nat) : Int) = i by omega, hget] at this
      exact this
    have hrd : rd ch (d :: ds) p = if d = 35 ∨ d = 37 then (if dg (ch p) = true then (if d = 37 ∧ dg (ch (p + 1)) = true then cv ((ch p - 48) * 10 + ch (p + 1) - 48) (rd ch ds (p + 2)) else cv (ch p - 48) (rd ch ds (p + 1))) else (false, p, [])) else if ch p = d then rd ch ds (p + 1) else (false, p, []) := rfl
    rw [hrd] at h1 h0
    have hds : ∀ x ∈ ds, 0 ≤ x ∧ x < 256 := fun x hx => hd x (List.mem_cons_of_mem _ hx)
    have hFail : (rd ch (d :: ds) p) = (false, p, []) → wpJ_X0_readShape_4_76 K (zI p) σ := fun e => by
      rw [← hrd, e] at h0
      intro σ22 e22
      subst e22
      have := h0 rfl (σ 22) (fun _ _ => rfl)
      rw [up_s] at this
      exact this
    have hKeep : ∀ (q w : Int), (0 ≤ q ∧ q ≤ n) → (d = 35 ∨ d = 37) → rd ch (d :: ds) p = cv w (rd ch ds q) → wpJ_X0_readShape_4_136 K (wlp (wpF_X0_readShape_4_8 K) (ds.length + 1)) (zI q) (zI t) (zI i) (zI w) σ := fun q w hq hv e => by
      rw [← hrd, e] at h1 h0
      rw [if_pos hv] at hnv2
      unfold wpJ_X0_readShape_4_136 wpJ_X0_readShape_4_147
      refine q_keepValue hm hc ⟨ht, by omega⟩ (fun v16 e16 v10 e10 => ?_)
      rw [zl_1, zI_add] at e16 e10
      subst e16; subst e10
      have hfo : ∀ f, FO (st σ 22 (3 * m + t).toNat (zI w) 22) m (t + 1) f → FO (σ 22) m t f ∧ f (3 * m + t).toNat = zI w := fun f hf => by
        refine ⟨fun j hj => ?_, ?_⟩
        · rw [hf j (by omega), st_j _ _ _ (by omega)]
        · rw [hf _ (by omega), st_e]
      refine q_rdL_4 hm ds (i + 1) q (t + 1) (st σ 22 (3 * m + t).toNat (zI w)) hT hc hdrop (by omega) (by omega) hq (by omega) (by omega) hds (fun c f hf hv2 => ?_) (fun c f hf => ?_)
      · rw [up_up]
        refine h1 c f (hfo f hf).1 (fun j hj => ?_)
        cases j with
        | zero =>
          rw [show (3 * m + t + ((0 : Nat) : Int)).toNat = (3 * m + t).toNat by omega]
          exact (hfo f hf).2
        | succ j =>
          have := hv2 j (by
            have : (cv w (rd ch ds q)).2.2.length = (rd ch ds q).2.2.length + 1 := rfl
            omega)
          rw [show (3 * m + t + ((j + 1 : Nat) : Int)).toNat = (3 * m + (t + 1) + (j : Int)).toNat by omega]
          exact this
      · rw [up_up]
        exact h0 c f (hfo f hf).1
    show wpS_X0_readShape_4_8 K (wlp (wpF_X0_readShape_4_8 K) (ds.length + 1)) (zI p) (zI t) (zI i) σ
    unfold wpS_X0_readShape_4_8 wpJ_X0_readShape_4_46
    refine br_le (x := 11) (by omega) (by omega) (fun c => absurd c (by omega)) (fun _ => ⟨zI_in (by omega) (by omega) (by decide), fun v2 e2 => ?_⟩)
    rw [hsch] at e2
    subst e2
    refine q_characterAt hT (by omega) ?_
    have hVal : (d = 35 ∨ d = 37) → wpJ_X0_readShape_4_51 K (wlp (wpF_X0_readShape_4_8 K) (ds.length + 1)) (zI p) (zI t) (zI i) (zI d) (zI (ch p)) 1 σ := fun hv => by
      unfold wpJ_X0_readShape_4_51 wpJ_X0_readShape_4_66
      refine one_ne (q_isDigit hcp (fun c => one_ne' ?_) (fun c => zero_eq' (hFail (by rw [hrd, if_pos hv, if_neg (by rw [c]; decide)]))))
      have hpn := hT.1.lt (p := p) (by have := dg_iff.1 c; omega)
      have hcr := dg_iff.1 c
      unfold wpJ_X0_readShape_4_83
      intro v8 e8
      rw [zl_1, zI_add] at e8
      subst e8
      refine one_ne (fun v11 e11 => ?_)
      rw [zl_48, zI_sub] at e11
      subst e11
      refine q_characterAt hT (by omega) ?_
      refine br_ne (y := 37) (by omega) (by omega) (fun c2 => ?_) (fun c2 => ?_)
      · refine q_isDigit hcp1 (fun c3 => one_ne ?_) (fun c3 => zero_eq ?_)
        · have hcr1 := dg_iff.1 c3
          have hpn1 := hT.1.lt (p := p + 1) (by omega)
          intro v20 e20 v21 e21
          rw [zl_10, zI_mul, zI_add, zl_48, zI_sub] at e20
          rw [zl_1, zI_add, show p + 1 + 1 = p + 2 by omega] at e21
          subst e20; subst e21
          exact hKeep (p + 2) _ ⟨by omega, by omega⟩ hv (by rw [hrd, if_pos hv, if_pos c, if_pos ⟨c2, c3⟩])
        · exact hKeep (p + 1) _ ⟨by omega, by omega⟩ hv (by rw [hrd, if_pos hv, if_pos c, if_neg (fun x => by rw [c3] at x; exact absurd x.2 (by decide))])
      · exact hKeep (p + 1) _ ⟨by omega, by omega⟩ hv (by rw [hrd, if_pos hv, if_pos c, if_neg (fun x => c2 x.1)])
    refine br_eq (y := 35) (by omega) (by omega) (fun c => hVal (Or.inl c)) (fun c => ?_)
    refine br_ne (y := 37) (by omega) (by omega) (fun c2 => hVal (Or.inr c2)) (fun c2 => ?_)
    have hnv3 : ¬ (d = 35 ∨ d = 37) := fun x => x.elim c c2
    unfold wpJ_X0_readShape_4_51
    refine zero_eq (br_eq (by omega) (by omega) (fun c3 => ?_) (fun c3 => hFail (by rw [hrd, if_neg hnv3, if_neg c3])))
    have hpn := hT.1.lt (p := p) (by omega)
    rw [if_neg hnv3, if_pos c3] at h1 h0
    rw [if_neg hnv3] at hnv2
    unfold wpJ_X0_readShape_4_83 wpJ_X0_readShape_4_147
    intro v8 e8
    rw [zl_1, zI_add] at e8
    subst e8
    refine zero_eq (fun v10 e10 => ?_)
    rw [zl_1, zI_add] at e10
    subst e10
    exact q_rdL_4 hm ds (i + 1) (p + 1) t σ hT hc hdrop (by omega) (by omega) ⟨by omega, by omega⟩ ht (by omega) hds h1 h0
theorem q_readShape_4 {K : Int32 → Mem → Prop} {ch : Int → Int} {n m : Int} {σ : Mem} (hm : 0 ≤ m ∧ m ≤ 8) (hT : TC σ ch n) (hc : σ 19 4 = zI m) {p : Int} (hp : 0 ≤ p ∧ p ≤ n)
    (h1 : (rd ch LS_4 p).1 = true → ∀ f, FO (σ 22) m 0 f → VO f m 0 (rd ch LS_4 p).2.2 → K (zI (rd ch LS_4 p).2.1) (va_up σ 22 f)) (h0 : (rd ch LS_4 p).1 = false → ∀ f, FO (σ 22) m 0 f → K (-1) (st (va_up σ 22 f) 19 5 (zI (rd ch LS_4 p).2.1))) : wp_X0_readShape_4 (zI p) σ K :=
  ⟨12, q_rdL_4 hm LS_4 0 p 0 σ hT hc rfl (by decide) (by decide) hp (by decide) (by decide) (by decide) h1 h0⟩

def LS_5 : List Int := [102, 105, 108, 108, 32, 37]
theorem ls_5 : ∀ i < 6, sch 5 (zI (i : Nat)) = zI (LS_5.getD i 0) := by decide +kernel
theorem q_rdL_5 {K : Int32 → Mem → Prop} {ch : Int → Int} {n m : Int} (hm : 0 ≤ m ∧ m ≤ 8) : ∀ (D : List Int) (i p t : Int) (σ : Mem), TC σ ch n → σ 19 4 = zI m → LS_5.drop i.toNat = D → 0 ≤ i → i + D.length = 6 → (0 ≤ p ∧ p ≤ n) → 0 ≤ t → t + nv D ≤ 3 → (∀ d ∈ D, 0 ≤ d ∧ d < 256) →
    ((rd ch D p).1 = true → ∀ f, FO (σ 22) m t f → VO f m t (rd ch D p).2.2 → K (zI (rd ch D p).2.1) (va_up σ 22 f)) → ((rd ch D p).1 = false → ∀ f, FO (σ 22) m t f → K (-1) (st (va_up σ 22 f) 19 5 (zI (rd ch D p).2.1))) → wlp (wpF_X0_readShape_5_8 K) (D.length + 1) (zI p, zI t, zI i, σ)
  | [], i, p, t, σ, hT, hc, hD, hi, hil, hp, ht, htn, hd, h1, h0 => by
    show wpS_X0_readShape_5_8 K _ (zI p) (zI t) (zI i) σ
    have := h1 rfl (σ 22) (fun _ _ => rfl) (fun j hj => absurd hj (Nat.not_lt_zero j))
    rw [up_s] at this
    have e : i = 6 := by
      rw [show (([] : List Int).length : Int) = 0 from rfl] at hil
      omega
    subst e
    exact ⟨fun _ => this, fun c => absurd (by decide) c⟩
  | d :: ds, i, p, t, σ, hT, hc, hD, hi, hil, hp, ht, htn, hd, h1, h0 => by
    have hn := hT.1.1
    have hcp := hT.1.2.2.1 p
    have hcp1 := hT.1.2.2.1 (p + 1)
    have hdd := hd d List.mem_cons_self
    have hnv := nv_0 ds
    have hil2 : i + ds.length + 1 = 6 := by
      rw [List.length_cons] at hil
      omega
    have hnv2 : nv (d :: ds) = (if d = 35 ∨ d = 37 then 1 else 0) + nv ds := rfl
    have hget : LS_5.getD i.toNat 0 = d := by
      rw [List.getD_eq_getElem?_getD, ← Nat.add_zero i.toNat, ← List.getElem?_drop, hD]
      rfl
    have hdrop : LS_5.drop (i + 1).toNat = ds := by
      rw [show (i + 1).toNat = i.toNat + 1 by omega, ← List.drop_drop, hD]
      rfl
    have hsch : sch 5 (zI i) = zI d := by
      have := ls_5 i.toNat (by omega)
      rw [show ((i.toNat : Nat) : Int) = i by omega, hget] at this
      exact this
    have hrd : rd ch (d :: ds) p = if d = 35 ∨ d = 37 then (if dg (ch p) = true then (if d = 37 ∧ dg (ch (p + 1)) = true then cv ((ch p - 48) * 10 + ch (p + 1) - 48) (rd ch ds (p + 2)) else cv (ch p - 48) (rd ch ds (p + 1))) else (false, p, [])) else if ch p = d then rd ch ds (p + 1) else (false, p, []) := rfl
    rw [hrd] at h1 h0
    have hds : ∀ x ∈ ds, 0 ≤ x ∧ x < 256 := fun x hx => hd x (List.mem_cons_of_mem _ hx)
    have hFail : (rd ch (d :: ds) p) = (false, p, []) → wpJ_X0_readShape_5_76 K (zI p) σ := fun e => by
      rw [← hrd, e] at h0
      intro σ22 e22
      subst e22
      have := h0 rfl (σ 22) (fun _ _ => rfl)
      rw [up_s] at this
      exact this
    have hKeep : ∀ (q w : Int), (0 ≤ q ∧ q ≤ n) → (d = 35 ∨ d = 37) → rd ch (d :: ds) p = cv w (rd ch ds q) → wpJ_X0_readShape_5_136 K (wlp (wpF_X0_readShape_5_8 K) (ds.length + 1)) (zI q) (zI t) (zI i) (zI w) σ := fun q w hq hv e => by
      rw [← hrd, e] at h1 h0
      rw [if_pos hv] at hnv2
      unfold wpJ_X0_readShape_5_136 wpJ_X0_readShape_5_147
      refine q_keepValue hm hc ⟨ht, by omega⟩ (fun v16 e16 v10 e10 => ?_)
      rw [zl_1, zI_add] at e16 e10
      subst e16; subst e10
      have hfo : ∀ f, FO (st σ 22 (3 * m + t).toNat (zI w) 22) m (t + 1) f → FO (σ 22) m t f ∧ f (3 * m + t).toNat = zI w := fun f hf => by
        refine ⟨fun j hj => ?_, ?_⟩
        · rw [hf j (by omega), st_j _ _ _ (by omega)]
        · rw [hf _ (by omega), st_e]
      refine q_rdL_5 hm ds (i + 1) q (t + 1) (st σ 22 (3 * m + t).toNat (zI w)) hT hc hdrop (by omega) (by omega) hq (by omega) (by omega) hds (fun c f hf hv2 => ?_) (fun c f hf => ?_)
      · rw [up_up]
        refine h1 c f (hfo f hf).1 (fun j hj => ?_)
        cases j with
        | zero =>
          rw [show (3 * m + t + ((0 : Nat) : Int)).toNat = (3 * m + t).toNat by omega]
          exact (hfo f hf).2
        | succ j =>
          have := hv2 j (by
            have : (cv w (rd ch ds q)).2.2.length = (rd ch ds q).2.2.length + 1 := rfl
            omega)
          rw [show (3 * m + t + ((j + 1 : Nat) : Int)).toNat = (3 * m + (t + 1) + (j : Int)).toNat by omega]
          exact this
      · rw [up_up]
        exact h0 c f (hfo f hf).1
    show wpS_X0_readShape_5_8 K (wlp (wpF_X0_readShape_5_8 K) (ds.length + 1)) (zI p) (zI t) (zI i) σ
    unfold wpS_X0_readShape_5_8 wpJ_X0_readShape_5_46
    refine br_le (x := 6) (by omega) (by omega) (fun c => absurd c (by omega)) (fun _ => ⟨zI_in (by omega) (by omega) (by decide), fun v2 e2 => ?_⟩)
    rw [hsch] at e2
    subst e2
    refine q_characterAt hT (by omega) ?_
    have hVal : (d = 35 ∨ d = 37) → wpJ_X0_readShape_5_51 K (wlp (wpF_X0_readShape_5_8 K) (ds.length + 1)) (zI p) (zI t) (zI i) (zI d) (zI (ch p)) 1 σ := fun hv => by
      unfold wpJ_X0_readShape_5_51 wpJ_X0_readShape_5_66
      refine one_ne (q_isDigit hcp (fun c => one_ne' ?_) (fun c => zero_eq' (hFail (by rw [hrd, if_pos hv, if_neg (by rw [c]; decide)]))))
      have hpn := hT.1.lt (p := p) (by have := dg_iff.1 c; omega)
      have hcr := dg_iff.1 c
      unfold wpJ_X0_readShape_5_83
      intro v8 e8
      rw [zl_1, zI_add] at e8
      subst e8
      refine one_ne (fun v11 e11 => ?_)
      rw [zl_48, zI_sub] at e11
      subst e11
      refine q_characterAt hT (by omega) ?_
      refine br_ne (y := 37) (by omega) (by omega) (fun c2 => ?_) (fun c2 => ?_)
      · refine q_isDigit hcp1 (fun c3 => one_ne ?_) (fun c3 => zero_eq ?_)
        · have hcr1 := dg_iff.1 c3
          have hpn1 := hT.1.lt (p := p + 1) (by omega)
          intro v20 e20 v21 e21
          rw [zl_10, zI_mul, zI_add, zl_48, zI_sub] at e20
          rw [zl_1, zI_add, show p + 1 + 1 = p + 2 by omega] at e21
          subst e20; subst e21
          exact hKeep (p + 2) _ ⟨by omega, by omega⟩ hv (by rw [hrd, if_pos hv, if_pos c, if_pos ⟨c2, c3⟩])
        · exact hKeep (p + 1) _ ⟨by omega, by omega⟩ hv (by rw [hrd, if_pos hv, if_pos c, if_neg (fun x => by rw [c3] at x; exact absurd x.2 (by decide))])
      · exact hKeep (p + 1) _ ⟨by omega, by omega⟩ hv (by rw [hrd, if_pos hv, if_pos c, if_neg (fun x => c2 x.1)])
    refine br_eq (y := 35) (by omega) (by omega) (fun c => hVal (Or.inl c)) (fun c => ?_)
    refine br_ne (y := 37) (by omega) (by omega) (fun c2 => hVal (Or.inr c2)) (fun c2 => ?_)
    have hnv3 : ¬ (d = 35 ∨ d = 37) := fun x => x.elim c c2
    unfold wpJ_X0_readShape_5_51
    refine zero_eq (br_eq (by omega) (by omega) (fun c3 => ?_) (fun c3 => hFail (by rw [hrd, if_neg hnv3, if_neg c3])))
    have hpn := hT.1.lt (p := p) (by omega)
    rw [if_neg hnv3, if_pos c3] at h1 h0
    rw [if_neg hnv3] at hnv2
    unfold wpJ_X0_readShape_5_83 wpJ_X0_readShape_5_147
    intro v8 e8
    rw [zl_1, zI_add] at e8
    subst e8
    refine zero_eq (fun v10 e10 => ?_)
    rw [zl_1, zI_add] at e10
    subst e10
    exact q_rdL_5 hm ds (i + 1) (p + 1) t σ hT hc hdrop (by omega) (by omega) ⟨by omega, by omega⟩ ht (by omega) hds h1 h0
theorem q_readShape_5 {K : Int32 → Mem → Prop} {ch : Int → Int} {n m : Int} {σ : Mem} (hm : 0 ≤ m ∧ m ≤ 8) (hT : TC σ ch n) (hc : σ 19 4 = zI m) {p : Int} (hp : 0 ≤ p ∧ p ≤ n)
    (h1 : (rd ch LS_5 p).1 = true → ∀ f, FO (σ 22) m 0 f → VO f m 0 (rd ch LS_5 p).2.2 → K (zI (rd ch LS_5 p).2.1) (va_up σ 22 f)) (h0 : (rd ch LS_5 p).1 = false → ∀ f, FO (σ 22) m 0 f → K (-1) (st (va_up σ 22 f) 19 5 (zI (rd ch LS_5 p).2.1))) : wp_X0_readShape_5 (zI p) σ K :=
  ⟨7, q_rdL_5 hm LS_5 0 p 0 σ hT hc rfl (by decide) (by decide) hp (by decide) (by decide) (by decide) h1 h0⟩

def LS_6 : List Int := [102, 111, 111, 100, 32, 37]
theorem ls_6 : ∀ i < 6, sch 6 (zI (i : Nat)) = zI (LS_6.getD i 0) := by decide +kernel
theorem q_rdL_6 {K : Int32 → Mem → Prop} {ch : Int → Int} {n m : Int} (hm : 0 ≤ m ∧ m ≤ 8) : ∀ (D : List Int) (i p t : Int) (σ : Mem), TC σ ch n → σ 19 4 = zI m → LS_6.drop i.toNat = D → 0 ≤ i → i + D.length = 6 → (0 ≤ p ∧ p ≤ n) → 0 ≤ t → t + nv D ≤ 3 → (∀ d ∈ D, 0 ≤ d ∧ d < 256) →
    ((rd ch D p).1 = true → ∀ f, FO (σ 22) m t f → VO f m t (rd ch D p).2.2 → K (zI (rd ch D p).2.1) (va_up σ 22 f)) → ((rd ch D p).1 = false → ∀ f, FO (σ 22) m t f → K (-1) (st (va_up σ 22 f) 19 5 (zI (rd ch D p).2.1))) → wlp (wpF_X0_readShape_6_8 K) (D.length + 1) (zI p, zI t, zI i, σ)
  | [], i, p, t, σ, hT, hc, hD, hi, hil, hp, ht, htn, hd, h1, h0 => by
    show wpS_X0_readShape_6_8 K _ (zI p) (zI t) (zI i) σ
    have := h1 rfl (σ 22) (fun _ _ => rfl) (fun j hj => absurd hj (Nat.not_lt_zero j))
    rw [up_s] at this
    have e : i = 6 := by
      rw [show (([] : List Int).length : Int) = 0 from rfl] at hil
      omega
    subst e
    exact ⟨fun _ => this, fun c => absurd (by decide) c⟩
  | d :: ds, i, p, t, σ, hT, hc, hD, hi, hil, hp, ht, htn, hd, h1, h0 => by
    have hn := hT.1.1
    have hcp := hT.1.2.2.1 p
    have hcp1 := hT.1.2.2.1 (p + 1)
    have hdd := hd d List.mem_cons_self
    have hnv := nv_0 ds
    have hil2 : i + ds.length + 1 = 6 := by
      rw [List.length_cons] at hil
      omega
    have hnv2 : nv (d :: ds) = (if d = 35 ∨ d = 37 then 1 else 0) + nv ds := rfl
    have hget : LS_6.getD i.toNat 0 = d := by
      rw [List.getD_eq_getElem?_getD, ← Nat.add_zero i.toNat, ← List.getElem?_drop, hD]
      rfl
    have hdrop : LS_6.drop (i + 1).toNat = ds := by
      rw [show (i + 1).toNat = i.toNat + 1 by omega, ← List.drop_drop, hD]
      rfl
    have hsch : sch 6 (zI i) = zI d := by
      have := ls_6 i.toNat (by omega)
      rw [show ((i.toNat : Nat) : Int) = i by omega, hget] at this
      exact this
    have hrd : rd ch (d :: ds) p = if d = 35 ∨ d = 37 then (if dg (ch p) = true then (if d = 37 ∧ dg (ch (p + 1)) = true then cv ((ch p - 48) * 10 + ch (p + 1) - 48) (rd ch ds (p + 2)) else cv (ch p - 48) (rd ch ds (p + 1))) else (false, p, [])) else if ch p = d then rd ch ds (p + 1) else (false, p, []) := rfl
    rw [hrd] at h1 h0
    have hds : ∀ x ∈ ds, 0 ≤ x ∧ x < 256 := fun x hx => hd x (List.mem_cons_of_mem _ hx)
    have hFail : (rd ch (d :: ds) p) = (false, p, []) → wpJ_X0_readShape_6_76 K (zI p) σ := fun e => by
      rw [← hrd, e] at h0
      intro σ22 e22
      subst e22
      have := h0 rfl (σ 22) (fun _ _ => rfl)
      rw [up_s] at this
      exact this
    have hKeep : ∀ (q w : Int), (0 ≤ q ∧ q ≤ n) → (d = 35 ∨ d = 37) → rd ch (d :: ds) p = cv w (rd ch ds q) → wpJ_X0_readShape_6_136 K (wlp (wpF_X0_readShape_6_8 K) (ds.length + 1)) (zI q) (zI t) (zI i) (zI w) σ := fun q w hq hv e => by
      rw [← hrd, e] at h1 h0
      rw [if_pos hv] at hnv2
      unfold wpJ_X0_readShape_6_136 wpJ_X0_readShape_6_147
      refine q_keepValue hm hc ⟨ht, by omega⟩ (fun v16 e16 v10 e10 => ?_)
      rw [zl_1, zI_add] at e16 e10
      subst e16; subst e10
      have hfo : ∀ f, FO (st σ 22 (3 * m + t).toNat (zI w) 22) m (t + 1) f → FO (σ 22) m t f ∧ f (3 * m + t).toNat = zI w := fun f hf => by
        refine ⟨fun j hj => ?_, ?_⟩
        · rw [hf j (by omega), st_j _ _ _ (by omega)]
        · rw [hf _ (by omega), st_e]
      refine q_rdL_6 hm ds (i + 1) q (t + 1) (st σ 22 (3 * m + t).toNat (zI w)) hT hc hdrop (by omega) (by omega) hq (by omega) (by omega) hds (fun c f hf hv2 => ?_) (fun c f hf => ?_)
      · rw [up_up]
        refine h1 c f (hfo f hf).1 (fun j hj => ?_)
        cases j with
        | zero =>
          rw [show (3 * m + t + ((0 : Nat) : Int)).toNat = (3 * m + t).toNat by omega]
          exact (hfo f hf).2
        | succ j =>
          have := hv2 j (by
            have : (cv w (rd ch ds q)).2.2.length = (rd ch ds q).2.2.length + 1 := rfl
            omega)
          rw [show (3 * m + t + ((j + 1 : Nat) : Int)).toNat = (3 * m + (t + 1) + (j : Int)).toNat by omega]
          exact this
      · rw [up_up]
        exact h0 c f (hfo f hf).1
    show wpS_X0_readShape_6_8 K (wlp (wpF_X0_readShape_6_8 K) (ds.length + 1)) (zI p) (zI t) (zI i) σ
    unfold wpS_X0_readShape_6_8 wpJ_X0_readShape_6_46
    refine br_le (x := 6) (by omega) (by omega) (fun c => absurd c (by omega)) (fun _ => ⟨zI_in (by omega) (by omega) (by decide), fun v2 e2 => ?_⟩)
    rw [hsch] at e2
    subst e2
    refine q_characterAt hT (by omega) ?_
    have hVal : (d = 35 ∨ d = 37) → wpJ_X0_readShape_6_51 K (wlp (wpF_X0_readShape_6_8 K) (ds.length + 1)) (zI p) (zI t) (zI i) (zI d) (zI (ch p)) 1 σ := fun hv => by
      unfold wpJ_X0_readShape_6_51 wpJ_X0_readShape_6_66
      refine one_ne (q_isDigit hcp (fun c => one_ne' ?_) (fun c => zero_eq' (hFail (by rw [hrd, if_pos hv, if_neg (by rw [c]; decide)]))))
      have hpn := hT.1.lt (p := p) (by have := dg_iff.1 c; omega)
      have hcr := dg_iff.1 c
      unfold wpJ_X0_readShape_6_83
      intro v8 e8
      rw [zl_1, zI_add] at e8
      subst e8
      refine one_ne (fun v11 e11 => ?_)
      rw [zl_48, zI_sub] at e11
      subst e11
      refine q_characterAt hT (by omega) ?_
      refine br_ne (y := 37) (by omega) (by omega) (fun c2 => ?_) (fun c2 => ?_)
      · refine q_isDigit hcp1 (fun c3 => one_ne ?_) (fun c3 => zero_eq ?_)
        · have hcr1 := dg_iff.1 c3
          have hpn1 := hT.1.lt (p := p + 1) (by omega)
          intro v20 e20 v21 e21
          rw [zl_10, zI_mul, zI_add, zl_48, zI_sub] at e20
          rw [zl_1, zI_add, show p + 1 + 1 = p + 2 by omega] at e21
          subst e20; subst e21
          exact hKeep (p + 2) _ ⟨by omega, by omega⟩ hv (by rw [hrd, if_pos hv, if_pos c, if_pos ⟨c2, c3⟩])
        · exact hKeep (p + 1) _ ⟨by omega, by omega⟩ hv (by rw [hrd, if_pos hv, if_pos c, if_neg (fun x => by rw [c3] at x; exact absurd x.2 (by decide))])
      · exact hKeep (p + 1) _ ⟨by omega, by omega⟩ hv (by rw [hrd, if_pos hv, if_pos c, if_neg (fun x => c2 x.1)])
    refine br_eq (y := 35) (by omega) (by omega) (fun c => hVal (Or.inl c)) (fun c => ?_)
    refine br_ne (y := 37) (by omega) (by omega) (fun c2 => hVal (Or.inr c2)) (fun c2 => ?_)
    have hnv3 : ¬ (d = 35 ∨ d = 37) := fun x => x.elim c c2
    unfold wpJ_X0_readShape_6_51
    refine zero_eq (br_eq (by omega) (by omega) (fun c3 => ?_) (fun c3 => hFail (by rw [hrd, if_neg hnv3, if_neg c3])))
    have hpn := hT.1.lt (p := p) (by omega)
    rw [if_neg hnv3, if_pos c3] at h1 h0
    rw [if_neg hnv3] at hnv2
    unfold wpJ_X0_readShape_6_83 wpJ_X0_readShape_6_147
    intro v8 e8
    rw [zl_1, zI_add] at e8
    subst e8
    refine zero_eq (fun v10 e10 => ?_)
    rw [zl_1, zI_add] at e10
    subst e10
    exact q_rdL_6 hm ds (i + 1) (p + 1) t σ hT hc hdrop (by omega) (by omega) ⟨by omega, by omega⟩ ht (by omega) hds h1 h0
theorem q_readShape_6 {K : Int32 → Mem → Prop} {ch : Int → Int} {n m : Int} {σ : Mem} (hm : 0 ≤ m ∧ m ≤ 8) (hT : TC σ ch n) (hc : σ 19 4 = zI m) {p : Int} (hp : 0 ≤ p ∧ p ≤ n)
    (h1 : (rd ch LS_6 p).1 = true → ∀ f, FO (σ 22) m 0 f → VO f m 0 (rd ch LS_6 p).2.2 → K (zI (rd ch LS_6 p).2.1) (va_up σ 22 f)) (h0 : (rd ch LS_6 p).1 = false → ∀ f, FO (σ 22) m 0 f → K (-1) (st (va_up σ 22 f) 19 5 (zI (rd ch LS_6 p).2.1))) : wp_X0_readShape_6 (zI p) σ K :=
  ⟨7, q_rdL_6 hm LS_6 0 p 0 σ hT hc rfl (by decide) (by decide) hp (by decide) (by decide) (by decide) h1 h0⟩

def LS_7 : List Int := [112, 97, 115, 115, 32, 37]
theorem ls_7 : ∀ i < 6, sch 7 (zI (i : Nat)) = zI (LS_7.getD i 0) := by decide +kernel
theorem q_rdL_7 {K : Int32 → Mem → Prop} {ch : Int → Int} {n m : Int} (hm : 0 ≤ m ∧ m ≤ 8) : ∀ (D : List Int) (i p t : Int) (σ : Mem), TC σ ch n → σ 19 4 = zI m → LS_7.drop i.toNat = D → 0 ≤ i → i + D.length = 6 → (0 ≤ p ∧ p ≤ n) → 0 ≤ t → t + nv D ≤ 3 → (∀ d ∈ D, 0 ≤ d ∧ d < 256) →
    ((rd ch D p).1 = true → ∀ f, FO (σ 22) m t f → VO f m t (rd ch D p).2.2 → K (zI (rd ch D p).2.1) (va_up σ 22 f)) → ((rd ch D p).1 = false → ∀ f, FO (σ 22) m t f → K (-1) (st (va_up σ 22 f) 19 5 (zI (rd ch D p).2.1))) → wlp (wpF_X0_readShape_7_8 K) (D.length + 1) (zI p, zI t, zI i, σ)
  | [], i, p, t, σ, hT, hc, hD, hi, hil, hp, ht, htn, hd, h1, h0 => by
    show wpS_X0_readShape_7_8 K _ (zI p) (zI t) (zI i) σ
    have := h1 rfl (σ 22) (fun _ _ => rfl) (fun j hj => absurd hj (Nat.not_lt_zero j))
    rw [up_s] at this
    have e : i = 6 := by
      rw [show (([] : List Int).length : Int) = 0 from rfl] at hil
      omega
    subst e
    exact ⟨fun _ => this, fun c => absurd (by decide) c⟩
  | d :: ds, i, p, t, σ, hT, hc, hD, hi, hil, hp, ht, htn, hd, h1, h0 => by
    have hn := hT.1.1
    have hcp := hT.1.2.2.1 p
    have hcp1 := hT.1.2.2.1 (p + 1)
    have hdd := hd d List.mem_cons_self
    have hnv := nv_0 ds
    have hil2 : i + ds.length + 1 = 6 := by
      rw [List.length_cons] at hil
      omega
    have hnv2 : nv (d :: ds) = (if d = 35 ∨ d = 37 then 1 else 0) + nv ds := rfl
    have hget : LS_7.getD i.toNat 0 = d := by
      rw [List.getD_eq_getElem?_getD, ← Nat.add_zero i.toNat, ← List.getElem?_drop, hD]
      rfl
    have hdrop : LS_7.drop (i + 1).toNat = ds := by
      rw [show (i + 1).toNat = i.toNat + 1 by omega, ← List.drop_drop, hD]
      rfl
    have hsch : sch 7 (zI i) = zI d := by
      have := ls_7 i.toNat (by omega)
      rw [show ((i.toNat : Nat) : Int) = i by omega, hget] at this
      exact this
    have hrd : rd ch (d :: ds) p = if d = 35 ∨ d = 37 then (if dg (ch p) = true then (if d = 37 ∧ dg (ch (p + 1)) = true then cv ((ch p - 48) * 10 + ch (p + 1) - 48) (rd ch ds (p + 2)) else cv (ch p - 48) (rd ch ds (p + 1))) else (false, p, [])) else if ch p = d then rd ch ds (p + 1) else (false, p, []) := rfl
    rw [hrd] at h1 h0
    have hds : ∀ x ∈ ds, 0 ≤ x ∧ x < 256 := fun x hx => hd x (List.mem_cons_of_mem _ hx)
    have hFail : (rd ch (d :: ds) p) = (false, p, []) → wpJ_X0_readShape_7_76 K (zI p) σ := fun e => by
      rw [← hrd, e] at h0
      intro σ22 e22
      subst e22
      have := h0 rfl (σ 22) (fun _ _ => rfl)
      rw [up_s] at this
      exact this
    have hKeep : ∀ (q w : Int), (0 ≤ q ∧ q ≤ n) → (d = 35 ∨ d = 37) → rd ch (d :: ds) p = cv w (rd ch ds q) → wpJ_X0_readShape_7_136 K (wlp (wpF_X0_readShape_7_8 K) (ds.length + 1)) (zI q) (zI t) (zI i) (zI w) σ := fun q w hq hv e => by
      rw [← hrd, e] at h1 h0
      rw [if_pos hv] at hnv2
      unfold wpJ_X0_readShape_7_136 wpJ_X0_readShape_7_147
      refine q_keepValue hm hc ⟨ht, by omega⟩ (fun v16 e16 v10 e10 => ?_)
      rw [zl_1, zI_add] at e16 e10
      subst e16; subst e10
      have hfo : ∀ f, FO (st σ 22 (3 * m + t).toNat (zI w) 22) m (t + 1) f → FO (σ 22) m t f ∧ f (3 * m + t).toNat = zI w := fun f hf => by
        refine ⟨fun j hj => ?_, ?_⟩
        · rw [hf j (by omega), st_j _ _ _ (by omega)]
        · rw [hf _ (by omega), st_e]
      refine q_rdL_7 hm ds (i + 1) q (t + 1) (st σ 22 (3 * m + t).toNat (zI w)) hT hc hdrop (by omega) (by omega) hq (by omega) (by omega) hds (fun c f hf hv2 => ?_) (fun c f hf => ?_)
      · rw [up_up]
        refine h1 c f (hfo f hf).1 (fun j hj => ?_)
        cases j with
        | zero =>
          rw [show (3 * m + t + ((0 : Nat) : Int)).toNat = (3 * m + t).toNat by omega]
          exact (hfo f hf).2
        | succ j =>
          have := hv2 j (by
            have : (cv w (rd ch ds q)).2.2.length = (rd ch ds q).2.2.length + 1 := rfl
            omega)
          rw [show (3 * m + t + ((j + 1 : Nat) : Int)).toNat = (3 * m + (t + 1) + (j : Int)).toNat by omega]
          exact this
      · rw [up_up]
        exact h0 c f (hfo f hf).1
    show wpS_X0_readShape_7_8 K (wlp (wpF_X0_readShape_7_8 K) (ds.length + 1)) (zI p) (zI t) (zI i) σ
    unfold wpS_X0_readShape_7_8 wpJ_X0_readShape_7_46
    refine br_le (x := 6) (by omega) (by omega) (fun c => absurd c (by omega)) (fun _ => ⟨zI_in (by omega) (by omega) (by decide), fun v2 e2 => ?_⟩)
    rw [hsch] at e2
    subst e2
    refine q_characterAt hT (by omega) ?_
    have hVal : (d = 35 ∨ d = 37) → wpJ_X0_readShape_7_51 K (wlp (wpF_X0_readShape_7_8 K) (ds.length + 1)) (zI p) (zI t) (zI i) (zI d) (zI (ch p)) 1 σ := fun hv => by
      unfold wpJ_X0_readShape_7_51 wpJ_X0_readShape_7_66
      refine one_ne (q_isDigit hcp (fun c => one_ne' ?_) (fun c => zero_eq' (hFail (by rw [hrd, if_pos hv, if_neg (by rw [c]; decide)]))))
      have hpn := hT.1.lt (p := p) (by have := dg_iff.1 c; omega)
      have hcr := dg_iff.1 c
      unfold wpJ_X0_readShape_7_83
      intro v8 e8
      rw [zl_1, zI_add] at e8
      subst e8
      refine one_ne (fun v11 e11 => ?_)
      rw [zl_48, zI_sub] at e11
      subst e11
      refine q_characterAt hT (by omega) ?_
      refine br_ne (y := 37) (by omega) (by omega) (fun c2 => ?_) (fun c2 => ?_)
      · refine q_isDigit hcp1 (fun c3 => one_ne ?_) (fun c3 => zero_eq ?_)
        · have hcr1 := dg_iff.1 c3
          have hpn1 := hT.1.lt (p := p + 1) (by omega)
          intro v20 e20 v21 e21
          rw [zl_10, zI_mul, zI_add, zl_48, zI_sub] at e20
          rw [zl_1, zI_add, show p + 1 + 1 = p + 2 by omega] at e21
          subst e20; subst e21
          exact hKeep (p + 2) _ ⟨by omega, by omega⟩ hv (by rw [hrd, if_pos hv, if_pos c, if_pos ⟨c2, c3⟩])
        · exact hKeep (p + 1) _ ⟨by omega, by omega⟩ hv (by rw [hrd, if_pos hv, if_pos c, if_neg (fun x => by rw [c3] at x; exact absurd x.2 (by decide))])
      · exact hKeep (p + 1) _ ⟨by omega, by omega⟩ hv (by rw [hrd, if_pos hv, if_pos c, if_neg (fun x => c2 x.1)])
    refine br_eq (y := 35) (by omega) (by omega) (fun c => hVal (Or.inl c)) (fun c => ?_)
    refine br_ne (y := 37) (by omega) (by omega) (fun c2 => hVal (Or.inr c2)) (fun c2 => ?_)
    have hnv3 : ¬ (d = 35 ∨ d = 37) := fun x => x.elim c c2
    unfold wpJ_X0_readShape_7_51
    refine zero_eq (br_eq (by omega) (by omega) (fun c3 => ?_) (fun c3 => hFail (by rw [hrd, if_neg hnv3, if_neg c3])))
    have hpn := hT.1.lt (p := p) (by omega)
    rw [if_neg hnv3, if_pos c3] at h1 h0
    rw [if_neg hnv3] at hnv2
    unfold wpJ_X0_readShape_7_83 wpJ_X0_readShape_7_147
    intro v8 e8
    rw [zl_1, zI_add] at e8
    subst e8
    refine zero_eq (fun v10 e10 => ?_)
    rw [zl_1, zI_add] at e10
    subst e10
    exact q_rdL_7 hm ds (i + 1) (p + 1) t σ hT hc hdrop (by omega) (by omega) ⟨by omega, by omega⟩ ht (by omega) hds h1 h0
theorem q_readShape_7 {K : Int32 → Mem → Prop} {ch : Int → Int} {n m : Int} {σ : Mem} (hm : 0 ≤ m ∧ m ≤ 8) (hT : TC σ ch n) (hc : σ 19 4 = zI m) {p : Int} (hp : 0 ≤ p ∧ p ≤ n)
    (h1 : (rd ch LS_7 p).1 = true → ∀ f, FO (σ 22) m 0 f → VO f m 0 (rd ch LS_7 p).2.2 → K (zI (rd ch LS_7 p).2.1) (va_up σ 22 f)) (h0 : (rd ch LS_7 p).1 = false → ∀ f, FO (σ 22) m 0 f → K (-1) (st (va_up σ 22 f) 19 5 (zI (rd ch LS_7 p).2.1))) : wp_X0_readShape_7 (zI p) σ K :=
  ⟨7, q_rdL_7 hm LS_7 0 p 0 σ hT hc rfl (by decide) (by decide) hp (by decide) (by decide) (by decide) h1 h0⟩
