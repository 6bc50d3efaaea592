/-! the commands of a text, one after another: the loops -/
def rn : List (Int × List Int) → (Nat → Int) → Bool × Nat × (Nat → Int) × Option (Int × Int)
  | [], a => (true, 0, a, none)
  | c :: cs, a => if kO a c = true then ((rn cs (kN a c)).1, (rn cs (kN a c)).2.1 + 1, (rn cs (kN a c)).2.2) else (false, 0, a, kR a c)
theorem drop_get {α : Type} {cs : List α} {i : Nat} {d z : α} {ds : List α} (h : cs.drop i = d :: ds) : cs.getD i z = d ∧ cs.drop (i + 1) = ds ∧ i < cs.length := by
  refine ⟨?_, ?_, ?_⟩
  · rw [List.getD_eq_getElem?_getD, ← Nat.add_zero i, ← List.getElem?_drop, h]
    rfl
  · rw [← List.drop_drop, h]
    rfl
  · by_cases c : i < cs.length
    · exact c
    · rw [List.drop_eq_nil_of_le (by omega)] at h
      exact absurd h (by simp)
theorem ST_q {σ σ' : Mem} {m : Int} {cs : List (Int × List Int)} (h : ST σ m cs) (hQ : QF σ σ') : ST σ' m cs := fun i hi => by
  rw [hQ 21 (by decide) (by decide), hQ 22 (by decide) (by decide)]
  exact h i hi
theorem q_execL {K : Int32 → Mem → Prop} {KX : String → Mem → Prop} {cs : List (Int × List Int)} (h9 : cs.length ≤ 9) : ∀ (D : List (Int × List Int)) (i : Nat) (a : Nat → Int) (σ : Mem), cs.drop i = D → i + D.length = cs.length → (∀ c ∈ D, CW c) → σ 19 4 = zI cs.length → ST σ 0 cs → WF a → RC a (σ 2) →
    ((rn D a).1 = true → ∀ σ', QF σ σ' → WF (rn D a).2.2.1 → RC (rn D a).2.2.1 (σ' 2) → wpJ_X4_execute_106 K KX σ') → ((rn D a).1 = false → ∀ σ', QF σ σ' → wpJ_X4_execute_73 K KX (zI ((i : Int) + (rn D a).2.1)) (rcl σ' (rn D a).2.2.2)) → wlp (wpF_X4_execute_54 K KX) (D.length + 1) (zI i, σ)
  | [], i, a, σ, hD, hil, hC, h19, hS, hW, hR, h1, h0 => by
    show wpS_X4_execute_54 K KX _ (zI i) σ
    unfold wpS_X4_execute_54 wp_X0_commands
    have e : i = cs.length := by
      have : i + 0 = cs.length := hil
      omega
    rw [h19]
    exact br_le (by omega) (by omega) (fun _ => h1 rfl σ (QF_0 σ) hW hR) (fun c => absurd c (by omega))
  | (k, vs) :: ds, i, a, σ, hD, hil, hC, h19, hS, hW, hR, h1, h0 => by
    have hg := drop_get (z := ((0 : Int), ([] : List Int))) hD
    have hc := hC (k, vs) List.mem_cons_self
    have hst := hS i hg.2.2
    rw [hg.1, Int.zero_add] at hst
    have hil2 : i + ds.length + 1 = cs.length := by
      rw [List.length_cons] at hil
      omega
    have hrn : rn ((k, vs) :: ds) a = if kO a (k, vs) = true then ((rn ds (kN a (k, vs))).1, (rn ds (kN a (k, vs))).2.1 + 1, (rn ds (kN a (k, vs))).2.2) else (false, 0, a, kR a (k, vs)) := rfl
    rw [hrn] at h1 h0
    show wpS_X4_execute_54 K KX (wlp (wpF_X4_execute_54 K KX) (ds.length + 1)) (zI i) σ
    unfold wpS_X4_execute_54 wp_X0_commands
    rw [h19]
    refine br_le (by omega) (by omega) (fun c => absurd c (by omega)) (fun _ => ?_)
    refine q_runs hR hW ⟨by omega, by omega⟩ hc (by rw [Int.toNat_natCast]; exact hst.1) hst.2 (fun ho σ' hQ w1 w2 => one_ne' (fun v15 e15 => ?_)) (fun ho => zero_eq' ?_)
    · rw [zl_1, zI_add] at e15
      subst e15
      rw [if_pos ho] at h1 h0
      exact q_execL h9 ds (i + 1) (kN a (k, vs)) σ' hg.2.1 (by omega) (fun c hc2 => hC c (List.mem_cons_of_mem _ hc2)) (by rw [hQ 19 (by decide) (by decide)]; exact h19) (ST_q hS hQ) w1 w2 (fun hk σ'' hQ2 => h1 hk σ'' (QF_t hQ hQ2)) (fun hk σ'' hQ2 => by
        have := h0 hk σ'' (QF_t hQ hQ2)
        change wpJ_X4_execute_73 K KX (zI ((i : Int) + (((rn ds (kN a (k, vs))).2.1 + 1 : Nat) : Int))) (rcl σ'' (rn ds (kN a (k, vs))).2.2.2) at this
        rw [show (i : Int) + (((rn ds (kN a (k, vs))).2.1 + 1 : Nat) : Int) = ((i + 1 : Nat) : Int) + ((rn ds (kN a (k, vs))).2.1 : Int) by omega] at this
        exact this)
    · rw [if_neg (by rw [ho]; decide)] at h0
      have := h0 rfl σ (QF_0 σ)
      change wpJ_X4_execute_73 K KX (zI ((i : Int) + ((0 : Nat) : Int))) (rcl σ (kR a (k, vs))) at this
      rw [show (i : Int) + ((0 : Nat) : Int) = i by omega] at this
      exact this
theorem fls_W {key : Int → Int} {s : Int} (hs : 0 ≤ s ∧ s < 28) : ∀ (r : Nat) (a : Nat → Int) (m : Nat) (c : Int), WF a → m < 32 → unm m (a 0) = r → WF (fls key s r a m c).1
  | 0, a, m, c, hW, _, _ => hW
  | r + 1, a, m, c, hW, hm, hu => by
    have hc := hW.c
    have hg := fgt_ok hW (m := m) (r := r) (by omega)
    have hus := unm_s hm hc.1 ⟨hg.1, hg.2.1⟩ hg.2.2
    have e0 : fNx key s a m 0 = a 0 := fNx_0 hW hs.1 (m := m) (r := r) (by omega) (by decide)
    exact fls_W hs r (fNx key s a m) (m ||| 2 ^ (fgt a m).toNat) _ (fNx_W hW hs (m := m) (r := r) (by omega)) (mb_lt hm (by omega)) (by rw [e0]; omega)
theorem nxs_W {a : Nat → Int} (hW : WF a) {k v0 v1 v2 : Int} (hk : 0 ≤ k ∧ k < 8) (hok : oks a k v0 v1 v2 = true) : WF (nxs a k v0 v1 v2) := by
  have hc := hW.c
  rcases (by omega : k = 0 ∨ k = 1 ∨ k = 2 ∨ k = 3 ∨ k = 4 ∨ k = 5 ∨ k = 6 ∨ k = 7) with e | e | e | e | e | e | e | e <;> subst e
  · have ho : (1 ≤ v0 ∧ v0 ≤ 9) ∧ a 0 < 5 := of_decide_eq_true hok
    exact WF_addG hW ho.2 ho.1
  · have ho : (1 ≤ v0 ∧ v0 ≤ 9) ∧ a 1 < 10 := of_decide_eq_true hok
    exact WF_addU hW ho.2 ho.1
  · have ho : (0 ≤ v0 ∧ v0 < a 0) ∧ (0 ≤ v1 ∧ v1 < 28) ∧ (0 ≤ v2 ∧ v2 < a 1) ∧ a 3 ≤ v1 ∧ rsn a v0 v1 v2 = 0 := of_decide_eq_true hok
    exact WF_duty hW ho.1 ho.2.1 ⟨by omega, ho.2.2.1.2⟩
  · have ho : (0 ≤ v0 ∧ v0 < a 0) ∧ (0 ≤ v1 ∧ v1 < 28) ∧ a 3 ≤ v1 ∧ du a v0 v1 ≠ -1 := of_decide_eq_true hok
    exact WF_duty hW ho.1 ho.2.1 ⟨by omega, by omega⟩
  · have ho : (0 ≤ v0 ∧ v0 < a 1) ∧ (0 ≤ v1 ∧ v1 ≤ v2 ∧ v2 < 28) ∧ a 3 ≤ v1 ∧ fgh a v0 v1 v2 = -1 := of_decide_eq_true hok
    exact WF_lv hW ⟨ho.1.1, by omega⟩ (gl_lt hW ⟨ho.1.1, by omega⟩ ⟨ho.2.1.1, ho.2.1.2.1⟩ ho.2.1.2.2)
  · have ho : (0 ≤ v0 ∧ v0 < 28) ∧ a 3 ≤ v0 := of_decide_eq_true hok
    exact fls_W ho.1 (a 0).toNat a 0 0 hW (by decide) (by rw [unm_0 hc.1.1]; omega)
  · have ho : (1 ≤ v0 ∧ v0 ≤ 50) ∧ a 2 + v0 ≤ 99 := of_decide_eq_true hok
    exact WF_food hW (by omega)
  · have ho : (1 ≤ v0 ∧ v0 ≤ 28) ∧ a 3 + v0 ≤ 28 := of_decide_eq_true hok
    exact psl_W _ a 0 hW (by omega)
def MX (σ σ' : Mem) (o : Option (Int × Int)) : Prop := (∀ c, c ≠ 25 → c ≠ 26 → σ' c = σ c) ∧ (∀ j, j ≠ 7 → j ≠ 8 → j ≠ 9 → j ≠ 16 → σ' 25 j = σ 25 j) ∧ σ' 25 8 = (rv (σ 25 8) (σ 25 9) o).1 ∧ σ' 25 9 = (rv (σ 25 8) (σ 25 9) o).2 ∧ ∃ v : Int, (0 < v ∧ v ≤ 5) ∧ σ' 25 7 = zI v
theorem MO_0 {σ : Mem} (h : σ 25 7 = 0) : MO σ σ := ⟨fun _ _ _ => rfl, fun _ _ _ => rfl, h⟩
theorem MO_t {σ σ' σ'' : Mem} (h : MO σ σ') (h2 : MO σ' σ'') : MO σ σ'' := ⟨fun c c1 c2 => by rw [h2.1 c c1 c2, h.1 c c1 c2], fun j j1 j2 => by rw [h2.2.1 j j1 j2, h.2.1 j j1 j2], h2.2.2⟩
theorem MX_t {σ σ' σ'' : Mem} {o : Option (Int × Int)} (h : MO σ σ') (h2 : MX σ' σ'' o) : MX σ σ'' o := ⟨fun c c1 c2 => by rw [h2.1 c c1 c2, h.1 c c1 c2], fun j j1 j2 j3 j4 => by rw [h2.2.1 j j1 j2 j3 j4, h.2.1 j j1 j4], by rw [h2.2.2.1, h.2.1 8 (by decide) (by decide), h.2.1 9 (by decide) (by decide)], by rw [h2.2.2.2.1, h.2.1 8 (by decide) (by decide), h.2.1 9 (by decide) (by decide)], h2.2.2.2.2⟩
theorem MN_X {σ σ' : Mem} {o : Option (Int × Int)} (h : MN σ σ' o) : MX σ σ' o := ⟨fun c c1 _ => h.1 c c1, h.2.1, h.2.2.1, h.2.2.2.1, h.2.2.2.2⟩
theorem m_execL {K : Int32 → Mem → Prop} {cs : List (Int × List Int)} (h9 : cs.length ≤ 9) : ∀ (D : List (Int × List Int)) (i : Nat) (a : Nat → Int) (r : Int32) (σ : Mem), cs.drop i = D → i + D.length = cs.length → (∀ c ∈ D, CW c) → σ 25 20 = zI cs.length → σ 25 6 = 1 → σ 25 7 = 0 → SM4 (σ 33) 0 cs → WF a → RG a (σ 26) →
    ((rn D a).1 = true → ∀ (r : Int32) (σ' : Mem), MO σ σ' → RG (rn D a).2.2.1 (σ' 26) → wpJ_X5_execute_98 K (zI cs.length) r σ') → ((rn D a).1 = false → ∀ σ', MX σ σ' (rn D a).2.2.2 → wpJ_X5_execute_98 K (zI ((i : Int) + (rn D a).2.1)) 0 σ') → wlp (wpF_X5_execute_62 K) (D.length + 2) (zI i, r, σ)
  | [], i, a, r, σ, hD, hil, hC, h20, h6, h7, hS, hW, hG, h1, h0 => by
    show wpS_X5_execute_62 K _ (zI i) r σ
    unfold wpS_X5_execute_62
    have e : i = cs.length := by
      have : i + 0 = cs.length := hil
      omega
    rw [h20, e]
    exact br_le (by omega) (by omega) (fun _ => h1 rfl r σ (MO_0 h7) hG) (fun c => absurd c (by omega))
  | (k, vs) :: ds, i, a, r, σ, hD, hil, hC, h20, h6, h7, hS, hW, hG, h1, h0 => by
    have hg := drop_get (z := ((0 : Int), ([] : List Int))) hD
    have hc := hC (k, vs) List.mem_cons_self
    have hst := hS i hg.2.2
    rw [hg.1, Int.zero_add] at hst
    have hil2 : i + ds.length + 1 = cs.length := by
      rw [List.length_cons] at hil
      omega
    have hrn : rn ((k, vs) :: ds) a = if kO a (k, vs) = true then ((rn ds (kN a (k, vs))).1, (rn ds (kN a (k, vs))).2.1 + 1, (rn ds (kN a (k, vs))).2.2) else (false, 0, a, kR a (k, vs)) := rfl
    rw [hrn] at h1 h0
    show wpS_X5_execute_62 K (wlp (wpF_X5_execute_62 K) (ds.length + 2)) (zI i) r σ
    unfold wpS_X5_execute_62
    rw [h20, h7]
    refine br_le (by omega) (by omega) (fun c => absurd c (by omega)) (fun _ => ⟨fun c => absurd rfl c, fun _ => ?_⟩)
    rw [zl_4, zI_mul]
    obtain ⟨w0, e0, b0⟩ := pick (σ 33 (4 * (i : Int) + 1).toNat)
    obtain ⟨w1, e1, b1⟩ := pick (σ 33 (4 * (i : Int) + 2).toNat)
    obtain ⟨w2, e2, b2⟩ := pick (σ 33 (4 * (i : Int) + 3).toNat)
    have hl3 : vs.length ≤ 3 := by
      have h1 := hc.2.1
      have h2 := LSn_nv k.toNat (by have := hc.1; omega)
      change (vs.length : Int) = nv (LSn k.toNat) at h1
      omega
    have hir := c_irr (a := a) hc (w0 := w0) (w1 := w1) (w2 := w2) (fun j hj => by
      have hv := hst.2 j hj
      have h99 := getD_99 hc.2.2 j hj
      rcases (by omega : j = 0 ∨ j = 1 ∨ j = 2) with e | e | e <;> subst e
      · rw [show (4 * (i : Int) + 1 + ((0 : Nat) : Int)).toNat = (4 * (i : Int) + 1).toNat by omega, e0] at hv
        exact pick_is hv b0 h99
      · rw [show (4 * (i : Int) + 1 + ((1 : Nat) : Int)).toNat = (4 * (i : Int) + 2).toNat by omega, e1] at hv
        exact pick_is hv b1 h99
      · rw [show (4 * (i : Int) + 1 + ((2 : Nat) : Int)).toNat = (4 * (i : Int) + 3).toNat by omega, e2] at hv
        exact pick_is hv b2 h99)
    have hWN : oks a k w0 w1 w2 = true → WF (nxs a k w0 w1 w2) := nxs_W hW hc.1
    refine w_carries hG hW h6 (i := i) (k := k) (v0 := w0) (v1 := w1) (v2 := w2) ⟨by omega, by omega⟩ hc.1 hst.1 e0 e1 e2 b0 b1 b2 (fun ho r2 σ' hM w => ?_) (fun ho σ' hN => ?_)
    · rw [hM.2.2]
      refine ⟨fun c => absurd rfl c, fun _ v23 e23 => ?_⟩
      rw [zl_1, zI_add] at e23
      subst e23
      have hw := hWN ho
      rw [hir.2.1] at w hw
      have ho2 : kO a (k, vs) = true := by rw [← hir.1]; exact ho
      rw [if_pos ho2] at h1 h0
      exact m_execL h9 ds (i + 1) (kN a (k, vs)) r2 σ' hg.2.1 (by omega) (fun c hc2 => hC c (List.mem_cons_of_mem _ hc2)) (by rw [hM.2.1 20 (by decide) (by decide)]; exact h20) (by rw [hM.2.1 6 (by decide) (by decide)]; exact h6) hM.2.2 (by rw [hM.1 33 (by decide) (by decide)]; exact hS) hw w (fun hk r3 σ'' hM2 => h1 hk r3 σ'' (MO_t hM hM2)) (fun hk σ'' hX => by
        have := h0 hk σ'' (MX_t hM hX)
        change wpJ_X5_execute_98 K (zI ((i : Int) + (((rn ds (kN a (k, vs))).2.1 + 1 : Nat) : Int))) 0 σ'' at this
        rw [show (i : Int) + (((rn ds (kN a (k, vs))).2.1 + 1 : Nat) : Int) = ((i + 1 : Nat) : Int) + ((rn ds (kN a (k, vs))).2.1 : Int) by omega] at this
        exact this)
    · have ho2 : kO a (k, vs) = false := by rw [← hir.1]; exact ho
      rw [if_neg (by rw [ho2]; decide)] at h0
      rw [hir.2.2] at hN
      have hx := MN_X hN
      obtain ⟨v, hv, e7⟩ := hx.2.2.2.2
      have hne : σ' 25 7 ≠ 0 := by
        rw [e7]
        exact fun c => absurd ((zI_eq (a := v) (b := 0) (by omega) (by omega) (by decide) (by decide)).1 c) (by omega)
      have hJ := h0 rfl σ' hx
      change wpJ_X5_execute_98 K (zI ((i : Int) + ((0 : Nat) : Int))) 0 σ' at hJ
      rw [show (i : Int) + ((0 : Nat) : Int) = i by omega] at hJ
      refine ⟨fun _ => ?_, fun c => absurd c hne⟩
      show wpS_X5_execute_62 K (wlp (wpF_X5_execute_62 K) (ds.length + 1)) (zI i) 0 σ'
      unfold wpS_X5_execute_62
      rw [hx.2.1 20 (by decide) (by decide) (by decide) (by decide), h20]
      exact br_le (by omega) (by omega) (fun c => absurd c (by omega)) (fun _ => ⟨fun _ => hJ, fun c => absurd c hne⟩)
