/-! the text: the class reads all commands -/
theorem rd_le {ch : Int → Int} {n : Int} (hT : TX ch n) : ∀ (D : List Int) (p : Int), (∀ d ∈ D, 0 ≤ d) → p ≤ n → (rd ch D p).2.1 ≤ n
  | [], p, _, h => h
  | d :: ds, p, hD, h => by
    have hd := hD d List.mem_cons_self
    have hds : ∀ x ∈ ds, 0 ≤ x := fun x hx => hD x (List.mem_cons_of_mem _ hx)
    show (if d = 35 ∨ d = 37 then (if dg (ch p) = true then (if d = 37 ∧ dg (ch (p + 1)) = true then cv ((ch p - 48) * 10 + ch (p + 1) - 48) (rd ch ds (p + 2)) else cv (ch p - 48) (rd ch ds (p + 1))) else (false, p, [])) else if ch p = d then rd ch ds (p + 1) else (false, p, [])).2.1 ≤ n
    by_cases c1 : d = 35 ∨ d = 37
    · rw [if_pos c1]
      by_cases c2 : dg (ch p) = true
      · rw [if_pos c2]
        have h1 := hT.lt (p := p) (by have := dg_iff.1 c2; omega)
        by_cases c3 : d = 37 ∧ dg (ch (p + 1)) = true
        · rw [if_pos c3]
          have h2 := hT.lt (p := p + 1) (by have := dg_iff.1 c3.2; omega)
          exact rd_le hT ds (p + 2) hds (by omega)
        · rw [if_neg c3]
          exact rd_le hT ds (p + 1) hds (by omega)
      · rw [if_neg c2]
        exact h
    · rw [if_neg c1]
      by_cases c2 : ch p = d
      · rw [if_pos c2]
        have h1 := hT.lt (p := p) (by omega)
        exact rd_le hT ds (p + 1) hds (by omega)
      · rw [if_neg c2]
        exact h
theorem LSn_0 : ∀ j < 8, ∀ d ∈ LSn j, 0 ≤ d := by decide +kernel
theorem LSn_6 : ∀ j < 8, 6 ≤ (LSn j).length := by decide +kernel
theorem fur_le {ch : Int → Int} {n p : Int} (hT : TX ch n) (hp : p ≤ n) {i : Nat} (hi : i ≤ 8) : fur ch p i ≤ n := by
  rcases fur_is ch p i with e | ⟨j, hj, e⟩
  · omega
  · have := rd_le hT (LSn j) p (LSn_0 j (by omega)) hp
    have e2 : fpn ch p j = (rd ch (LSn j) p).2.1 := rfl
    omega
theorem res_le {ch : Int → Int} {n p : Int} (hT : TX ch n) (hp : p ≤ n) : p ≤ (res ch p).2.1 ∧ (res ch p).2.1 ≤ n := by
  rw [← fur_8]
  exact ⟨(fur_ge ch p 8).1, fur_le hT hp (by decide)⟩
theorem kdn_rng (ch : Int → Int) (p : Int) : -1 ≤ kdn ch p ∧ kdn ch p ≤ 7 := by
  unfold kdn
  repeat' split
  all_goals omega
theorem res_6 {ch : Int → Int} {p : Int} (h : (res ch p).1 = true) : p + 6 ≤ (res ch p).2.1 ∧ 0 ≤ kdn ch p ∧ kdn ch p < 8 := by
  have hk := kdn_rng ch p
  unfold res at h ⊢
  by_cases c : kdn ch p = -1
  · rw [if_pos c] at h
    exact Bool.noConfusion (show false = true from h)
  · rw [if_neg c] at h ⊢
    have h1 := rd_len ch _ p h
    have h2 := LSn_6 (kdn ch p).toNat (by omega)
    omega
theorem rd_nv (ch : Int → Int) : ∀ (D : List Int) (p : Int), ((rd ch D p).2.2.length : Int) ≤ nv D
  | [], _ => Int.le_refl _
  | d :: ds, p => by
    have h1 := rd_nv ch ds (p + 1)
    have h2 := rd_nv ch ds (p + 2)
    have h3 := nv_0 ds
    have hnv2 : nv (d :: ds) = (if d = 35 ∨ d = 37 then 1 else 0) + nv ds := rfl
    rw [hnv2]
    show (((if d = 35 ∨ d = 37 then (if dg (ch p) = true then (if d = 37 ∧ dg (ch (p + 1)) = true then cv ((ch p - 48) * 10 + ch (p + 1) - 48) (rd ch ds (p + 2)) else cv (ch p - 48) (rd ch ds (p + 1))) else (false, p, [])) else if ch p = d then rd ch ds (p + 1) else (false, p, [])).2.2.length : Nat) : Int) ≤ _
    by_cases c1 : d = 35 ∨ d = 37
    · rw [if_pos c1, if_pos c1]
      by_cases c2 : dg (ch p) = true
      · rw [if_pos c2]
        by_cases c3 : d = 37 ∧ dg (ch (p + 1)) = true
        · rw [if_pos c3]
          show (((rd ch ds (p + 2)).2.2.length + 1 : Nat) : Int) ≤ _
          omega
        · rw [if_neg c3]
          show (((rd ch ds (p + 1)).2.2.length + 1 : Nat) : Int) ≤ _
          omega
      · rw [if_neg c2]
        show ((0 : Nat) : Int) ≤ _
        omega
    · rw [if_neg c1, if_neg c1]
      by_cases c2 : ch p = d
      · rw [if_pos c2]
        omega
      · rw [if_neg c2]
        show ((0 : Nat) : Int) ≤ _
        omega
theorem LSn_nv : ∀ j < 8, nv (LSn j) ≤ 3 := by decide +kernel
theorem res_3 {ch : Int → Int} {p : Int} (h : (res ch p).1 = true) : (res ch p).2.2.length ≤ 3 := by
  have hk := kdn_rng ch p
  unfold res at h ⊢
  by_cases c : kdn ch p = -1
  · rw [if_pos c] at h
    exact Bool.noConfusion (show false = true from h)
  · rw [if_neg c]
    have h1 := rd_nv ch (LSn (kdn ch p).toNat) p
    have h2 := LSn_nv (kdn ch p).toNat (by omega)
    omega
def PF (m : Int) (σ σ' : Mem) : Prop := (∀ c, c ≠ 19 → c ≠ 22 → σ' c = σ c) ∧ (∀ j, j ≠ 5 → σ' 19 j = σ 19 j) ∧ ∀ j : Nat, ¬ (3 * m ≤ j ∧ (j : Int) < 3 * m + 3) → σ' 22 j = σ 22 j
theorem PF_T {m : Int} {σ σ' : Mem} {ch : Int → Int} {n : Int} (h : PF m σ σ') (hT : TC σ ch n) : TC σ' ch n := ⟨hT.1, by rw [h.2.1 1 (by decide)]; exact hT.2.1, by rw [h.1 20 (by decide) (by decide)]; exact hT.2.2⟩
theorem PF_f {m : Int} {σ σ' : Mem} (h : PF m σ σ') {f : Nat → Int32} (hf : FO (σ' 22) m 0 f) : PF m σ (va_up σ' 22 f) := ⟨fun c c1 c2 => by rw [up_c _ _ c2]; exact h.1 c c1 c2, fun j hj => by rw [up_c _ _ (show (19 : Nat) ≠ 22 by decide)]; exact h.2.1 j hj, fun j hj => by rw [up_e, hf j (by omega)]; exact h.2.2 j hj⟩
theorem PF_w {m : Int} {σ σ' : Mem} (h : PF m σ σ') (v : Int32) : PF m σ (st σ' 19 5 v) := ⟨fun c c1 c2 => by rw [st_c _ _ _ c1]; exact h.1 c c1 c2, fun j hj => by rw [st_j _ _ _ hj]; exact h.2.1 j hj, fun j hj => by rw [st_c _ _ _ (show (22 : Nat) ≠ 19 by decide)]; exact h.2.2 j hj⟩
theorem q_readCommandL {K : Int32 → Mem → Prop} {ch : Int → Int} {n m p : Int} {σ : Mem} (hm : 0 ≤ m ∧ m ≤ 8) (hT : TC σ ch n) (hc : σ 19 4 = zI m) (hp : 0 ≤ p ∧ p ≤ n)
    (h1 : (res ch p).1 = true → ∀ σ', PF m σ σ' → VO (σ' 22) m 0 (res ch p).2.2 → K (zI (res ch p).2.1) (st σ' 21 m.toNat (zI (kdn ch p)))) (h0 : (res ch p).1 = false → ∀ σ', PF m σ σ' → σ' 19 5 = zI (res ch p).2.1 → K (-1) σ') : ∀ (r i : Nat) (σ1 : Mem), i + r = 8 → PF m σ σ1 → (∀ j, j < i → (rd ch (LSn j) p).1 = false) → wlp (wpF_X0_readCommand_4 K) (r + 1) (zI p, zI (fur ch p i), zI i, σ1)
  | 0, i, σ1, hi, hP, hno => by
    have e : i = 8 := by omega
    subst e
    show wpS_X0_readCommand_4 K _ (zI p) (zI (fur ch p 8)) (zI ((8 : Nat) : Int)) σ1
    unfold wpS_X0_readCommand_4 wpJ_X0_readCommand_71
    refine ⟨fun _ σ2 e2 => ?_, fun c => absurd (by decide) c⟩
    subst e2
    refine h0 (res_no hno) _ (PF_w hP _) ?_
    rw [st_e, fur_8]
  | r + 1, i, σ1, hi, hP, hno => by
    have hn := hT.1.1
    have hT1 := PF_T hP hT
    have hc1 : σ1 19 4 = zI m := by rw [hP.2.1 4 (by decide)]; exact hc
    have hfu := fur_le hT.1 hp.2 (i := i) (by omega)
    have hfg := (fur_ge ch p i).1
    have hfl := rd_le hT.1 (LSn i) p (LSn_0 i (by omega)) hp.2
    have hfl0 := rd_ge ch (LSn i) p
    have hOK : (rd ch (LSn i) p).1 = true → ∀ f, FO (σ1 22) m 0 f → VO f m 0 (rd ch (LSn i) p).2.2 → wpJ_X0_readCommand_19 K (wlp (wpF_X0_readCommand_4 K) (r + 1)) (zI p) (zI (fur ch p i)) (zI i) (zI (rd ch (LSn i) p).2.1) (va_up σ1 22 f) := fun hk f hf hv => by
      have hr := res_is (show i < 8 by omega) hk
      have hkd := res_ok (show i < 8 by omega) hk
      unfold wpJ_X0_readCommand_19 wpJ_X0_readCommand_27
      refine br_m1 (by omega) (fun c => absurd c (by omega)) (fun _ => ?_)
      rw [show va_up σ1 22 f 19 4 = σ1 19 4 from rfl, hc1]
      refine br_lt0 (by omega) (fun c => absurd c (by omega)) (fun _ => br_le (x := 9) (by omega) (by omega) (fun c => absurd c (by omega)) (fun _ => ⟨zI_in (by omega) (by omega) (by decide), fun σ12 e12 => ?_⟩))
      rw [zI_nat hm.1 (by omega)] at e12
      subst e12
      rw [← hr, ← hkd]
      exact h1 (by rw [hr]; exact hk) _ (PF_f hP hf) (by rw [up_e, hr]; exact hv)
    have hNO : (rd ch (LSn i) p).1 = false → ∀ f, FO (σ1 22) m 0 f → wpJ_X0_readCommand_19 K (wlp (wpF_X0_readCommand_4 K) (r + 1)) (zI p) (zI (fur ch p i)) (zI i) (-1) (st (va_up σ1 22 f) 19 5 (zI (rd ch (LSn i) p).2.1)) := fun hk f hf => by
      unfold wpJ_X0_readCommand_19
      refine ⟨fun _ v8 e8 v9 e9 => ?_, fun c => absurd rfl c⟩
      rw [st_e, zI_max (by omega) (by omega)] at e8
      rw [zl_1, zI_add] at e9
      subst e8; subst e9
      exact q_readCommandL hm hT hc hp h1 h0 r (i + 1) _ (by omega) (PF_w (PF_f hP hf) _) (fun j hj => by
        by_cases z : j = i
        · rw [z]; exact hk
        · exact hno j (by omega))
    show wpS_X0_readCommand_4 K (wlp (wpF_X0_readCommand_4 K) (r + 1)) (zI p) (zI (fur ch p i)) (zI i) σ1
    unfold wpS_X0_readCommand_4 wp_X0_shapeOf
    refine br_le (x := 8) (by omega) (by omega) (fun c => absurd c (by omega)) (fun _ => ?_)
    rcases (by omega : i = 0 ∨ i = 1 ∨ i = 2 ∨ i = 3 ∨ i = 4 ∨ i = 5 ∨ i = 6 ∨ i = 7) with e | e | e | e | e | e | e | e <;> subst e
    · exact ⟨fun _ => ⟨by decide, fun _ => q_readShape_0 hm hT1 hc1 hp hOK hNO, fun c => absurd c (by decide), fun c => absurd c (by decide), fun c => absurd c (by decide), fun c => absurd c (by decide), fun c => absurd c (by decide), fun c => absurd c (by decide), fun c => absurd c (by decide)⟩, fun c => absurd c (by decide), fun c => absurd c (by decide), fun c => absurd c (by decide), fun c => absurd c (by decide), fun c => absurd c (by decide), fun c => absurd c (by decide), fun c0 c1 c2 c3 c4 c5 c6 => absurd rfl c0⟩
    · exact ⟨fun c => absurd c (by decide), fun _ => ⟨by decide, fun c => absurd c (by decide), fun _ => q_readShape_1 hm hT1 hc1 hp hOK hNO, fun c => absurd c (by decide), fun c => absurd c (by decide), fun c => absurd c (by decide), fun c => absurd c (by decide), fun c => absurd c (by decide), fun c => absurd c (by decide)⟩, fun c => absurd c (by decide), fun c => absurd c (by decide), fun c => absurd c (by decide), fun c => absurd c (by decide), fun c => absurd c (by decide), fun c0 c1 c2 c3 c4 c5 c6 => absurd rfl c1⟩
    · exact ⟨fun c => absurd c (by decide), fun c => absurd c (by decide), fun _ => ⟨by decide, fun c => absurd c (by decide), fun c => absurd c (by decide), fun _ => q_readShape_2 hm hT1 hc1 hp hOK hNO, fun c => absurd c (by decide), fun c => absurd c (by decide), fun c => absurd c (by decide), fun c => absurd c (by decide), fun c => absurd c (by decide)⟩, fun c => absurd c (by decide), fun c => absurd c (by decide), fun c => absurd c (by decide), fun c => absurd c (by decide), fun c0 c1 c2 c3 c4 c5 c6 => absurd rfl c2⟩
    · exact ⟨fun c => absurd c (by decide), fun c => absurd c (by decide), fun c => absurd c (by decide), fun _ => ⟨by decide, fun c => absurd c (by decide), fun c => absurd c (by decide), fun c => absurd c (by decide), fun _ => q_readShape_3 hm hT1 hc1 hp hOK hNO, fun c => absurd c (by decide), fun c => absurd c (by decide), fun c => absurd c (by decide), fun c => absurd c (by decide)⟩, fun c => absurd c (by decide), fun c => absurd c (by decide), fun c => absurd c (by decide), fun c0 c1 c2 c3 c4 c5 c6 => absurd rfl c3⟩
    · exact ⟨fun c => absurd c (by decide), fun c => absurd c (by decide), fun c => absurd c (by decide), fun c => absurd c (by decide), fun _ => ⟨by decide, fun c => absurd c (by decide), fun c => absurd c (by decide), fun c => absurd c (by decide), fun c => absurd c (by decide), fun _ => q_readShape_4 hm hT1 hc1 hp hOK hNO, fun c => absurd c (by decide), fun c => absurd c (by decide), fun c => absurd c (by decide)⟩, fun c => absurd c (by decide), fun c => absurd c (by decide), fun c0 c1 c2 c3 c4 c5 c6 => absurd rfl c4⟩
    · exact ⟨fun c => absurd c (by decide), fun c => absurd c (by decide), fun c => absurd c (by decide), fun c => absurd c (by decide), fun c => absurd c (by decide), fun _ => ⟨by decide, fun c => absurd c (by decide), fun c => absurd c (by decide), fun c => absurd c (by decide), fun c => absurd c (by decide), fun c => absurd c (by decide), fun _ => q_readShape_5 hm hT1 hc1 hp hOK hNO, fun c => absurd c (by decide), fun c => absurd c (by decide)⟩, fun c => absurd c (by decide), fun c0 c1 c2 c3 c4 c5 c6 => absurd rfl c5⟩
    · exact ⟨fun c => absurd c (by decide), fun c => absurd c (by decide), fun c => absurd c (by decide), fun c => absurd c (by decide), fun c => absurd c (by decide), fun c => absurd c (by decide), fun _ => ⟨by decide, fun c => absurd c (by decide), fun c => absurd c (by decide), fun c => absurd c (by decide), fun c => absurd c (by decide), fun c => absurd c (by decide), fun c => absurd c (by decide), fun _ => q_readShape_6 hm hT1 hc1 hp hOK hNO, fun c => absurd c (by decide)⟩, fun c0 c1 c2 c3 c4 c5 c6 => absurd rfl c6⟩
    · exact ⟨fun c => absurd c (by decide), fun c => absurd c (by decide), fun c => absurd c (by decide), fun c => absurd c (by decide), fun c => absurd c (by decide), fun c => absurd c (by decide), fun c => absurd c (by decide), fun _ _ _ _ _ _ _ => ⟨by decide, fun c => absurd c (by decide), fun c => absurd c (by decide), fun c => absurd c (by decide), fun c => absurd c (by decide), fun c => absurd c (by decide), fun c => absurd c (by decide), fun c => absurd c (by decide), fun _ => q_readShape_7 hm hT1 hc1 hp hOK hNO⟩⟩
theorem q_readCommand {K : Int32 → Mem → Prop} {ch : Int → Int} {n m p : Int} {σ : Mem} (hm : 0 ≤ m ∧ m ≤ 8) (hT : TC σ ch n) (hc : σ 19 4 = zI m) (hp : 0 ≤ p ∧ p ≤ n)
    (h1 : (res ch p).1 = true → ∀ σ', PF m σ σ' → VO (σ' 22) m 0 (res ch p).2.2 → K (zI (res ch p).2.1) (st σ' 21 m.toNat (zI (kdn ch p)))) (h0 : (res ch p).1 = false → ∀ σ', PF m σ σ' → σ' 19 5 = zI (res ch p).2.1 → K (-1) σ') : wp_X0_readCommand (zI p) σ K :=
  ⟨9, q_readCommandL hm hT hc hp h1 h0 8 0 σ rfl ⟨fun _ _ _ => rfl, fun _ _ => rfl, fun _ _ => rfl⟩ (fun j hj => absurd hj (by omega))⟩
/-- all commands from p on -/
def pt (ch : Int → Int) : Nat → Int → Bool × Int × List (Int × List Int)
  | 0, p => (false, p, [])
  | r + 1, p => if (res ch p).1 = true then (if ch (res ch p).2.1 = -1 then (true, (res ch p).2.1, [(kdn ch p, (res ch p).2.2)]) else if ch (res ch p).2.1 = 59 then ((pt ch r ((res ch p).2.1 + 1)).1, (pt ch r ((res ch p).2.1 + 1)).2.1, (kdn ch p, (res ch p).2.2) :: (pt ch r ((res ch p).2.1 + 1)).2.2) else (false, (res ch p).2.1, [])) else (false, (res ch p).2.1, [])
def PG (m : Int) (σ σ' : Mem) : Prop := (∀ c, c ≠ 19 → c ≠ 21 → c ≠ 22 → σ' c = σ c) ∧ (∀ j, j ≠ 4 → j ≠ 5 → σ' 19 j = σ 19 j) ∧ (∀ j : Nat, (j : Int) < m → σ' 21 j = σ 21 j) ∧ ∀ j : Nat, (j : Int) < 3 * m → σ' 22 j = σ 22 j
def ST (σ : Mem) (m : Int) (cs : List (Int × List Int)) : Prop := ∀ i : Nat, i < cs.length → σ 21 (m + i).toNat = zI (cs.getD i (0, [])).1 ∧ VO (σ 22) (m + i) 0 (cs.getD i (0, [])).2
theorem q_parseL {K : Int32 → Mem → Prop} {ch : Int → Int} {n : Int} : ∀ (r : Nat) (m p : Int) (σ : Mem), m + r = 9 → 0 ≤ m → TC σ ch n → σ 19 4 = zI m → 7 * m ≤ p → p ≤ n →
    ((pt ch r p).1 = true → ∀ σ', PG m σ σ' → σ' 19 4 = zI (m + (pt ch r p).2.2.length) → ST σ' m (pt ch r p).2.2 → K 1 σ') → ((pt ch r p).1 = false → ∀ σ', PG m σ σ' → σ' 19 5 = zI (pt ch r p).2.1 → K 0 σ') → wlp (wpF_X0_parse_7 K) (r + 1) (zI p, σ)
  | 0, m, p, σ, hr, hm, hT, hc, hp, hpn, _, _ => by
    have := hT.1.1
    omega
  | r + 1, m, p, σ, hr, hm, hT, hc, hp, hpn, h1, h0 => by
    have hn := hT.1.1
    have hrl := res_le hT.1 hpn
    have hrd : pt ch (r + 1) p = if (res ch p).1 = true then (if ch (res ch p).2.1 = -1 then (true, (res ch p).2.1, [(kdn ch p, (res ch p).2.2)]) else if ch (res ch p).2.1 = 59 then ((pt ch r ((res ch p).2.1 + 1)).1, (pt ch r ((res ch p).2.1 + 1)).2.1, (kdn ch p, (res ch p).2.2) :: (pt ch r ((res ch p).2.1 + 1)).2.2) else (false, (res ch p).2.1, [])) else (false, (res ch p).2.1, []) := rfl
    rw [hrd] at h1 h0
    show wpS_X0_parse_7 K (wlp (wpF_X0_parse_7 K) (r + 1)) (zI p) σ
    unfold wpS_X0_parse_7
    rw [hc]
    refine br_le (x := 9) (by omega) (by omega) (fun c => absurd c (by omega)) (fun _ => ?_)
    refine q_readCommand ⟨hm, by omega⟩ hT hc ⟨by omega, hpn⟩ (fun hk σ' hP hv => ?_) (fun hk σ' hP hw => ?_)
    · have h6 := res_6 hk
      rw [if_pos hk] at h1 h0
      refine And.symm (And.symm (br_nm1 (by omega) (fun c => absurd c (by omega)) (fun _ σ7 e7 => ?_)))
      rw [show st σ' 21 m.toNat (zI (kdn ch p)) 19 4 = σ' 19 4 from rfl, hP.2.1 4 (by decide), hc, zl_1, zI_add] at e7
      subst e7
      have hT2 : TC (st (st σ' 21 m.toNat (zI (kdn ch p))) 19 4 (zI (m + 1))) ch n := by
        have := PF_T hP hT
        exact ⟨this.1, this.2.1, this.2.2⟩
      have hG : PG m σ (st (st σ' 21 m.toNat (zI (kdn ch p))) 19 4 (zI (m + 1))) := ⟨fun c c1 c2 c3 => by rw [st_c _ _ _ c1, st_c _ _ _ c2]; exact hP.1 c c1 c3, fun j j1 j2 => by rw [st_j _ _ _ j1]; exact hP.2.1 j j2, fun j hj => by
        rw [st_c _ _ _ (show (21 : Nat) ≠ 19 by decide), st_j _ _ _ (by omega), hP.1 21 (by decide) (by decide)], fun j hj => hP.2.2 j (by omega)⟩
      have hv0 : (st (st σ' 21 m.toNat (zI (kdn ch p))) 19 4 (zI (m + 1))) 21 m.toNat = zI (kdn ch p) := st_e σ' 21 m.toNat _
      refine q_characterAt hT2 (by omega) ?_
      have hcq := hT.1.2.2.1 (res ch p).2.1
      refine br_nm1 (by omega) (fun c => ?_) (fun c => ?_)
      · rw [if_pos c] at h1
        refine h1 rfl _ hG rfl (fun i hi => ?_)
        have e : i = 0 := by
          change i < 1 at hi
          omega
        subst e
        rw [show m + ((0 : Nat) : Int) = m by omega]
        exact ⟨hv0, hv⟩
      · rw [if_neg c] at h1 h0
        refine br_eq (y := 59) (by omega) (by omega) (fun c2 v12 e12 => ?_) (fun c2 => ?_)
        · have hlt := hT.1.lt (p := (res ch p).2.1) c
          rw [zl_1, zI_add] at e12
          subst e12
          rw [if_pos c2] at h1 h0
          have hGG : ∀ σ'', PG (m + 1) (st (st σ' 21 m.toNat (zI (kdn ch p))) 19 4 (zI (m + 1))) σ'' → PG m σ σ'' := fun σ'' h => ⟨fun c c1 c2 c3 => by rw [h.1 c c1 c2 c3, hG.1 c c1 c2 c3], fun j j1 j2 => by rw [h.2.1 j j1 j2, hG.2.1 j j1 j2], fun j hj => by rw [h.2.2.1 j (by omega), hG.2.2.1 j hj], fun j hj => by rw [h.2.2.2 j (by omega), hG.2.2.2 j hj]⟩
          refine q_parseL r (m + 1) ((res ch p).2.1 + 1) _ (by omega) (by omega) hT2 (st_e _ _ _ _) (by omega) (by omega) (fun hk2 σ'' hQ hl hs => ?_) (fun hk2 σ'' hQ hw => h0 hk2 σ'' (hGG σ'' hQ) hw)
          refine h1 hk2 σ'' (hGG σ'' hQ) ?_ (fun i hi => ?_)
          · rw [hl]
            congr 1
            show m + 1 + ((pt ch r ((res ch p).2.1 + 1)).2.2.length : Int) = m + (((pt ch r ((res ch p).2.1 + 1)).2.2.length + 1 : Nat) : Int)
            omega
          · cases i with
            | zero =>
              rw [show m + ((0 : Nat) : Int) = m by omega]
              refine ⟨by rw [hQ.2.2.1 _ (by omega)]; exact hv0, fun j hj => ?_⟩
              have := hv j hj
              have hjl : (3 * m + 0 + (j : Int)).toNat < 3 * (m + 1) ∨ 3 ≤ j := by omega
              have hjv : j < 3 := by
                have h3 := res_3 hk
                change j < (res ch p).2.2.length at hj
                omega
              rw [hQ.2.2.2 _ (by omega)]
              exact this
            | succ i =>
              have := hs i (by
                change i + 1 < (pt ch r ((res ch p).2.1 + 1)).2.2.length + 1 at hi
                omega)
              rw [show m + ((i + 1 : Nat) : Int) = m + 1 + (i : Int) by omega]
              exact this
        · rw [if_neg c2] at h0
          intro σ13 e13
          subst e13
          refine h0 rfl _ ⟨fun c c1 c2 c3 => by rw [st_c _ _ _ c1]; exact hG.1 c c1 c2 c3, fun j j1 j2 => by rw [st_j _ _ _ j2]; exact hG.2.1 j j1 j2, fun j hj => by rw [st_c _ _ _ (show (21 : Nat) ≠ 19 by decide)]; exact hG.2.2.1 j hj, fun j hj => by rw [st_c _ _ _ (show (22 : Nat) ≠ 19 by decide)]; exact hG.2.2.2 j hj⟩ (st_e _ _ _ _)
    · rw [if_neg (by rw [hk]; decide)] at h0
      exact ⟨fun c => absurd rfl c, fun _ => h0 rfl σ' ⟨fun c c1 _ c3 => hP.1 c c1 c3, fun j _ j2 => hP.2.1 j j2, fun j _ => by rw [hP.1 21 (by decide) (by decide)], fun j hj => hP.2.2 j (by omega)⟩ hw⟩
theorem q_parse {K : Int32 → Mem → Prop} {ch : Int → Int} {n : Int} {σ : Mem} (hT : TC σ ch n) (h1 : (pt ch 9 0).1 = true → ∀ σ', PG 0 σ σ' → σ' 19 4 = zI (pt ch 9 0).2.2.length → ST σ' 0 (pt ch 9 0).2.2 → K 1 σ') (h0 : (pt ch 9 0).1 = false → ∀ σ', PG 0 σ σ' → σ' 19 5 = zI (pt ch 9 0).2.1 → K 0 σ') : wp_X0_parse σ K := by
  unfold wp_X0_parse
  intro σ1 e1
  subst e1
  have hGG : ∀ σ', PG 0 (st σ 19 4 0) σ' → PG 0 σ σ' := fun σ'' h => ⟨fun c c1 c2 c3 => by rw [h.1 c c1 c2 c3, st_c _ _ _ c1], fun j j1 j2 => by rw [h.2.1 j j1 j2, st_j _ _ _ j1], fun j hj => absurd hj (by omega), fun j hj => absurd hj (by omega)⟩
  refine ⟨10, q_parseL 9 0 0 (st σ 19 4 0) (by decide) (by decide) ⟨hT.1, hT.2.1, hT.2.2⟩ (st_e _ _ _ _) (by decide) hT.1.1.1 (fun hk σ' hG hl hs => ?_) (fun hk σ' hG hw => h0 hk σ' (hGG σ' hG) hw)⟩
  rw [Int.zero_add] at hl
  exact h1 hk σ' (hGG σ' hG) hl hs
