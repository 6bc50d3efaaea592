/-! guards for gates: the paths -/
theorem an_p : ∀ m < 1024, ∀ i < 10, (m &&& 2 ^ i = 0 ↔ mb m (i : Nat) = false) := by decide +kernel
theorem and_le (m p : Nat) : m &&& p ≤ m := Nat.and_le_left
theorem br_an {A B : Prop} {m : Nat} {i : Int} (hm : m < 1024) (hi : 0 ≤ i ∧ i < 10) (h0 : mb m i = false → A) (h1 : mb m i = true → B) : ((Int32.ofNat m &&& Int32.ofNat (2 ^ i.toNat)) = (0 : Int32) → A) ∧ (¬ (Int32.ofNat m &&& Int32.ofNat (2 ^ i.toNat)) = (0 : Int32) → B) := by
  have h := an_p m hm i.toNat (by omega)
  rw [show ((i.toNat : Nat) : Int) = i by omega] at h
  have hl := and_le m (2 ^ i.toNat)
  rw [i_and, ← zI_n]
  refine br_0 (by omega) (fun c => h0 (h.1 (by omega))) (fun c => h1 ?_)
  cases e : mb m i with
  | true => rfl
  | false => exact absurd (h.2 e) (by omega)
theorem cn_sub {p q : Int → Bool} {n : Int} (hn : 0 ≤ n) (h : ∀ i, 0 ≤ i → i < n → p i = true → q i = true) : cn p n ≤ cn q n := by
  have e := cn_or (p := p) (q := fun i => q i && !p i) (r := q) hn (fun i i1 i2 => by
    have := h i i1 i2
    cases e1 : p i with
    | true => rw [this e1]; simp
    | false => simp)
  have z := cn_rng (fun i => q i && !p i) hn
  omega
theorem st_cc (σ : Mem) {c d : Nat} (hcd : c ≠ d) (i : Nat) (x w : Int32) (f : Nat → Int32) : st (va_up (st σ c i x) d f) c i w = va_up (st σ c i w) d f := by
  funext q k
  by_cases h : q = c
  · subst h
    have e1 : ∀ X : Mem, va_up X d f q = X q := fun X => by unfold va_up; rw [if_neg hcd]
    by_cases h2 : k = i
    · subst h2; rw [st_e, e1, st_e]
    · rw [st_j _ _ _ h2, e1, e1, st_j _ _ _ h2, st_j _ _ _ h2]
  · rw [st_c _ _ _ h]
    unfold va_up
    by_cases h2 : q = d
    · rw [if_pos h2, if_pos h2]
    · rw [if_neg h2, if_neg h2, st_c _ _ _ h, st_c _ _ _ h]
def mS (mg : Int → Int) (i w : Int) : Int → Int := fun v => if v = i then w else mg v
theorem tx_mS {mg : Int → Int} {i w : Int} (hi : 0 ≤ i ∧ i < 10) (c : Nat → Int32) : upd (tx mg 10 c) i.toNat (zI w) = tx (mS mg i w) 10 c := by
  funext j
  unfold upd tx mS
  by_cases h : j = i.toNat
  · rw [if_pos h, if_pos (by omega), if_pos (by omega)]
  · rw [if_neg h]
    by_cases h2 : (j : Int) < 10
    · rw [if_pos h2, if_pos h2, if_neg (by omega)]
    · rw [if_neg h2, if_neg h2]
def SX (σ : Mem) (y : Int32) (mg : Int → Int) : Mem := va_up (st σ 15 2 y) 17 (tx mg 10 (σ 17))
theorem SX_t (σ : Mem) (y z : Int32) (mg : Int → Int) : st (SX σ y mg) 15 2 z = SX σ z mg := st_cc σ (by decide) 2 y z _
theorem SX_g (σ : Mem) (y : Int32) (mg : Int → Int) {i w : Int} (hi : 0 ≤ i ∧ i < 10) : st (SX σ y mg) 17 i.toNat (zI w) = SX σ y (mS mg i w) := by
  unfold SX
  rw [st_u, tx_mS hi]
theorem SX_15 (σ : Mem) (y : Int32) (mg : Int → Int) : SX σ y mg 15 2 = y := st_e σ 15 2 y
theorem SX_17 (σ : Mem) (y : Int32) (mg : Int → Int) {i : Int} (hi : 0 ≤ i ∧ i < 10) : SX σ y mg 17 i.toNat = zI (mg i) := by
  show tx mg 10 (σ 17) i.toNat = zI (mg i)
  unfold tx
  rw [if_pos (by omega), show ((i.toNat : Nat) : Int) = i by omega]
theorem cnt_ex (mg : Int → Int) {i : Int} (hi : 0 ≤ i ∧ i < 10) (j : Int) : cnt mg j = cn (fun v => decide (mg v = j + 1 ∧ v ≠ i)) 10 + if mg i = j + 1 then 1 else 0 := by
  unfold cnt
  by_cases c : mg i = j + 1
  · rw [if_pos c]
    have h1 := cn_one (g := i) (n := 10) hi
    suffices hh : cn (fun v => decide (mg v = j + 1)) 10 = cn (fun v => decide (mg v = j + 1 ∧ v ≠ i)) 10 + cn (fun v => decide (v = i)) 10 by omega
    refine cn_or (by decide) (fun v _ _ => ?_)
    rw [decide_eq_true_iff, decide_eq_true_iff, decide_eq_true_iff]
    by_cases d : v = i
    · subst d; simp [c]
    · simp [d]
  · rw [if_neg c, Int.add_zero]
    refine cn_cong (fun v _ _ => ?_)
    by_cases d : v = i
    · subst d; simp [c]
    · simp [d]
theorem cnt_mS (mg : Int → Int) {i w : Int} (hi : 0 ≤ i ∧ i < 10) (j : Int) : cnt (mS mg i w) j + (if mg i = j + 1 then 1 else 0) = cnt mg j + if w = j + 1 then 1 else 0 := by
  rw [cnt_ex mg hi j, cnt_ex (mS mg i w) hi j]
  have e : cn (fun v => decide (mS mg i w v = j + 1 ∧ v ≠ i)) 10 = cn (fun v => decide (mg v = j + 1 ∧ v ≠ i)) 10 := cn_cong (fun v _ _ => by
    unfold mS
    by_cases d : v = i
    · subst d; simp
    · simp [d])
  have e2 : mS mg i w i = w := if_pos rfl
  rw [e, e2]
  omega
def Vd (F : Int → Nat) (mg : Int → Int) : Prop := (∀ v, 0 ≤ v → v < 10 → 0 ≤ mg v ∧ mg v ≤ 5) ∧ ∀ v, 0 ≤ v → v < 10 → mg v ≠ 0 → mb (F (mg v - 1)) v = true
def Clo (F : Int → Nat) (mg : Int → Int) (R : Nat) : Prop := ∀ v, 0 ≤ v → v < 10 → mb R v = true → mg v ≠ 0 ∧ ∀ w, 0 ≤ w → w < 10 → mb (F (mg v - 1)) w = true → mb R w = true
def Sc (F : Int → Nat) (k : Int) (T : Nat) (mg mh : Int → Int) : Prop := Vd F mh ∧ (∀ j, 0 ≤ j → j < 5 → cnt mh j = cnt mg j + if j = k then 1 else 0) ∧ (∀ v, 0 ≤ v → v < 10 → mb T v = true → mh v = mg v) ∧ ∀ R, Clo F mg R → (∀ v, 0 ≤ v → v < 10 → mb R v = true → mh v = mg v) ∧ ¬ ∀ w, 0 ≤ w → w < 10 → mb (F k) w = true → mb R w = true
def Nw (F : Int → Nat) (T : Nat) (mg : Int → Int) (U : Nat) : Prop := U < 1024 ∧ (∀ v, 0 ≤ v → v < 10 → mb T v = true → mb U v = true) ∧ ∀ v, 0 ≤ v → v < 10 → mb U v = true → mb T v = false → mg v ≠ 0 ∧ ∀ w, 0 ≤ w → w < 10 → mb (F (mg v - 1)) w = true → mb U w = true
def Fa (F : Int → Nat) (k : Int) (T : Nat) (mg : Int → Int) (U : Nat) : Prop := Nw F T mg U ∧ ∀ w, 0 ≤ w → w < 10 → mb (F k) w = true → mb U w = true
def dmt (T : Nat) (mg : Int → Int) : Int := cn (fun v => decide (mg v ≠ 0) && mb T v) 10
def FS (F : Int → Nat) (σ : Mem) (n : Nat) : Prop := ∀ (k d : Int) (T : Nat) (mg : Int → Int) (K : Int32 → Mem → Prop), (0 ≤ k ∧ k < 5) → T < 1024 → Vd F mg → 0 ≤ d → d ≤ dmt T mg → mtd mg 10 ≤ 4 → 6 ≤ n + d → (∀ (y : Int32) (mh : Int → Int), Sc F k T mg mh → K 1 (SX σ y mh)) → (∀ U, Fa F k T mg U → K 0 (SX σ (Int32.ofNat U) mg)) → wp_X3_findsN n (zI k) (zI d) (SX σ (Int32.ofNat T) mg) K
theorem dmt_le (T : Nat) (mg : Int → Int) : dmt T mg ≤ mtd mg 10 := cn_sub (by decide) (fun i _ _ h => by
  rw [Bool.and_eq_true] at h
  exact h.1)
theorem dmt_mono {T U : Nat} {mg : Int → Int} (h : ∀ v, 0 ≤ v → v < 10 → mb T v = true → mb U v = true) : dmt T mg ≤ dmt U mg := cn_sub (by decide) (fun i i1 i2 h2 => by
  rw [Bool.and_eq_true] at h2 ⊢
  exact ⟨h2.1, h i i1 i2 h2.2⟩)
theorem mb_pl {m : Nat} {i v : Int} (hi : 0 ≤ i) (hv : 0 ≤ v) : mb (m ||| 2 ^ i.toNat) v = (mb m v || decide (v = i)) := by
  rw [mb_orG, mb_pow hi hv]
theorem dmt_s {T : Nat} {mg : Int → Int} {i : Int} (hi : 0 ≤ i ∧ i < 10) (h0 : mb T i = false) (h1 : mg i ≠ 0) : dmt (T ||| 2 ^ i.toNat) mg = dmt T mg + 1 := by
  unfold dmt
  rw [← cn_one (g := i) (n := 10) hi]
  refine cn_or (by decide) (fun v v1 _ => ?_)
  rw [mb_pl hi.1 v1]
  by_cases d : v = i
  · subst d; simp [h0, h1]
  · simp [d]
theorem findsLoop {F : Int → Nat} (hF : ∀ k : Int, 0 ≤ k → k < 5 → F k < 1024) {σ : Mem} (h16 : ∀ k : Int, 0 ≤ k → k < 5 → σ 16 k.toNat = Int32.ofNat (F k)) {n : Nat} (IH : FS F σ n) {k d : Int} {T : Nat} {mg : Int → Int} {K : Int32 → Mem → Prop} (hk : 0 ≤ k ∧ k < 5) (hV : Vd F mg) (hd : 0 ≤ d) (hm : mtd mg 10 ≤ 4) (hn : 6 ≤ n + (d + 1))
    (hs : ∀ (y : Int32) (mh : Int → Int), Sc F k T mg mh → K 1 (SX σ y mh)) (hf : ∀ U, Fa F k T mg U → K 0 (SX σ (Int32.ofNat U) mg)) : ∀ (r : Nat) (i : Int) (U : Nat), i + r = 10 → 0 ≤ i → Nw F T mg U → d ≤ dmt U mg → (∀ w, 0 ≤ w → w < i → mb (F k) w = true → mb U w = true) → wlp (wpF_X3_finds_18 (wp_X3_findsN n) K) (r + 1) (zI k, zI d, zI i, SX σ (Int32.ofNat U) mg)
  | 0, i, U, hi, h0, hN, hdm, hw => by
    show wpS_X3_finds_18 (wp_X3_findsN n) K _ (zI k) (zI d) (zI i) (SX σ (Int32.ofNat U) mg)
    unfold wpS_X3_finds_18
    rw [zl_10]
    exact br_le (by omega) (by omega) (fun _ => hf U ⟨hN, fun w w1 w2 => hw w w1 (by omega)⟩) (fun c => absurd c (by omega))
  | r + 1, i, U, hi, h0, hN, hdm, hw => by
    have h10 : i < 10 := by omega
    show wpS_X3_finds_18 (wp_X3_findsN n) K (wlp (wpF_X3_finds_18 (wp_X3_findsN n) K) (r + 1)) (zI k) (zI d) (zI i) (SX σ (Int32.ofNat U) mg)
    have hskip : (∀ w, 0 ≤ w → w < i + 1 → mb (F k) w = true → mb U w = true) → wlp (wpF_X3_finds_18 (wp_X3_findsN n) K) (r + 1) (zI k, zI d, zI (i + 1), SX σ (Int32.ofNat U) mg) := fun hw2 => findsLoop hF h16 IH hk hV hd hm hn hs hf r (i + 1) U (by omega) (by omega) hN hdm hw2
    unfold wpS_X3_finds_18 wpJ_X3_finds_100 wpJ_X3_finds_89
    rw [zl_10]
    refine br_le (by omega) (by omega) (fun c => absurd c (by omega)) (fun _ v5 e5 => ?_)
    rw [zI_t h0, sh_2 _ (by omega)] at e5
    subst e5
    refine ⟨zI_in (by omega) (by omega) (by decide), ?_⟩
    rw [zI_nat hk.1 (by omega), show SX σ (Int32.ofNat U) mg 16 = σ 16 from rfl, h16 k hk.1 hk.2]
    refine br_an (hF k hk.1 hk.2) ⟨h0, h10⟩ (fun c v7 e7 => ?_) (fun c => ?_)
    · rw [zl_1, zI_add] at e7
      subst e7
      refine hskip (fun w w1 w2 w3 => ?_)
      by_cases z : w = i
      · rw [z, c] at w3; exact absurd w3 (by decide)
      · exact hw w w1 (by omega) w3
    · rw [SX_15]
      refine And.symm (br_an hN.1 ⟨h0, h10⟩ (fun c2 σ9 e9 => ?_) (fun c2 v7 e7 => ?_))
      · rw [i_or, SX_t] at e9
        subst e9
        refine ⟨zI_in (by omega) (by omega) (by decide), fun v10 e10 => ?_⟩
        rw [zI_nat h0 (by omega), SX_17 _ _ _ ⟨h0, h10⟩] at e10
        subst e10
        have hU2 : U ||| 2 ^ i.toNat < 1024 := Nat.or_lt_two_pow (n := 10) hN.1 (Nat.pow_lt_pow_right (by decide) (by omega))
        have hTi : mb T i = false := by
          cases e : mb T i with
          | false => rfl
          | true => rw [hN.2.1 i h0 h10 e] at c2; exact absurd c2 (by decide)
        have hmi := hV.1 i h0 h10
        refine br_0 (by omega) (fun c3 => ?_) (fun c3 => ?_)
        · refine ⟨zI_in (by omega) (by omega) (by decide), fun σ12 e12 => ?_⟩
          rw [zI_nat h0 (by omega), zl_1, zI_add, SX_g _ _ _ ⟨h0, h10⟩] at e12
          subst e12
          have hx : ∀ v, v ≠ i → mS mg i (k + 1) v = mg v := fun v hv => if_neg hv
          have hxi : mS mg i (k + 1) i = k + 1 := if_pos rfl
          refine hs _ _ ⟨⟨fun v v1 v2 => ?_, fun v v1 v2 v3 => ?_⟩, fun j j1 j2 => ?_, fun v v1 v2 v3 => ?_, fun R hR => ⟨fun v v1 v2 v3 => ?_, fun hall => ?_⟩⟩
          · by_cases z : v = i
            · rw [z, hxi]; omega
            · rw [hx v z]; exact hV.1 v v1 v2
          · by_cases z : v = i
            · rw [z, hxi, show k + 1 - 1 = k by omega]; exact c
            · rw [hx v z] at v3 ⊢; exact hV.2 v v1 v2 v3
          · have := cnt_mS mg (w := k + 1) ⟨h0, h10⟩ j
            rw [if_neg (show ¬ mg i = j + 1 by omega)] at this
            by_cases z : j = k
            · rw [if_pos (by omega)] at this; rw [if_pos z]; omega
            · rw [if_neg (by omega)] at this; rw [if_neg z]; omega
          · exact hx v (fun z => by rw [z, hTi] at v3; exact absurd v3 (by decide))
          · exact hx v (fun z => (hR v v1 v2 v3).1 (by rw [z]; exact c3))
          · exact (hR i h0 h10 (hall i h0 h10 c)).1 c3
        · rw [zl_1, zI_sub, zI_add]
          refine IH (mg i - 1) (d + 1) (U ||| 2 ^ i.toNat) mg _ (by omega) hU2 hV (by omega) (by rw [dmt_s ⟨h0, h10⟩ c2 c3]; omega) hm hn (fun y mh hS => ?_) (fun V hA => ?_)
          · refine And.symm (one_ne' ?_)
            refine ⟨zI_in (by omega) (by omega) (by decide), fun σ12 e12 => ?_⟩
            rw [zI_nat h0 (by omega), zI_add, SX_g _ _ _ ⟨h0, h10⟩] at e12
            subst e12
            have hx : ∀ v, v ≠ i → mS mh i (k + 1) v = mh v := fun v hv => if_neg hv
            have hxi : mS mh i (k + 1) i = k + 1 := if_pos rfl
            have hmh : mh i = mg i := hS.2.2.1 i h0 h10 (by rw [mb_pl h0 h0, decide_eq_true rfl, Bool.or_true])
            refine hs _ _ ⟨⟨fun v v1 v2 => ?_, fun v v1 v2 v3 => ?_⟩, fun j j1 j2 => ?_, fun v v1 v2 v3 => ?_, fun R hR => ?_⟩
            · by_cases z : v = i
              · rw [z, hxi]; omega
              · rw [hx v z]; exact hS.1.1 v v1 v2
            · by_cases z : v = i
              · rw [z, hxi, show k + 1 - 1 = k by omega]; exact c
              · rw [hx v z] at v3 ⊢; exact hS.1.2 v v1 v2 v3
            · have h1 := cnt_mS mh (w := k + 1) ⟨h0, h10⟩ j
              have h2 := hS.2.1 j j1 j2
              rw [hmh] at h1
              by_cases z : j = k
              · rw [if_pos (show k + 1 = j + 1 by omega)] at h1; rw [if_pos z]
                by_cases z2 : j = mg i - 1
                · rw [if_pos (by omega)] at h1; rw [if_pos z2] at h2; omega
                · rw [if_neg (by omega)] at h1; rw [if_neg z2] at h2; omega
              · rw [if_neg (show ¬ k + 1 = j + 1 by omega)] at h1; rw [if_neg z]
                by_cases z2 : j = mg i - 1
                · rw [if_pos (by omega)] at h1; rw [if_pos z2] at h2; omega
                · rw [if_neg (by omega)] at h1; rw [if_neg z2] at h2; omega
            · rw [hx v (fun z => by rw [z, hTi] at v3; exact absurd v3 (by decide))]
              exact hS.2.2.1 v v1 v2 (by rw [mb_pl h0 v1, hN.2.1 v v1 v2 v3, Bool.true_or])
            · have h5 := hS.2.2.2 R hR
              have hiR : mb R i ≠ true := fun z => h5.2 (hR i h0 h10 z).2
              refine ⟨fun v v1 v2 v3 => ?_, fun hall => hiR (hall i h0 h10 c)⟩
              rw [hx v (fun z => hiR (by rw [← z]; exact v3))]
              exact h5.1 v v1 v2 v3
          · refine And.symm (zero_eq' (fun v7 e7 => ?_))
            rw [zI_add] at e7
            subst e7
            have hsub : ∀ v, 0 ≤ v → v < 10 → mb U v = true → mb V v = true := fun v v1 v2 v3 => hA.1.2.1 v v1 v2 (by rw [mb_pl h0 v1, v3, Bool.true_or])
            have hiV : mb V i = true := hA.1.2.1 i h0 h10 (by rw [mb_pl h0 h0, decide_eq_true rfl, Bool.or_true])
            refine findsLoop hF h16 IH hk hV hd hm hn hs hf r (i + 1) V (by omega) (by omega) ⟨hA.1.1, fun v v1 v2 v3 => hsub v v1 v2 (hN.2.1 v v1 v2 v3), fun v v1 v2 v3 v4 => ?_⟩ (Int.le_trans hdm (dmt_mono hsub)) (fun w w1 w2 w3 => ?_)
            · by_cases z : v = i
              · rw [z]; exact ⟨c3, hA.2⟩
              · by_cases z2 : mb U v = true
                · have h6 := hN.2.2 v v1 v2 z2 v4
                  exact ⟨h6.1, fun w w1 w2 w3 => hsub w w1 w2 (h6.2 w w1 w2 w3)⟩
                · exact hA.1.2.2 v v1 v2 v3 (by rw [mb_pl h0 v1, decide_eq_false z, Bool.or_false]; exact Bool.eq_false_iff.2 z2)
            · by_cases z : w = i
              · rw [z]; exact hiV
              · exact hsub w w1 (by omega) (hw w w1 (by omega) w3)
      · rw [zl_1, zI_add] at e7
        subst e7
        refine hskip (fun w w1 w2 w3 => ?_)
        by_cases z : w = i
        · rw [z]; exact c2
        · exact hw w w1 (by omega) w3
theorem finds_all {F : Int → Nat} (hF : ∀ k : Int, 0 ≤ k → k < 5 → F k < 1024) {σ : Mem} (h16 : ∀ k : Int, 0 ≤ k → k < 5 → σ 16 k.toNat = Int32.ofNat (F k)) : ∀ n : Nat, FS F σ n
  | 0 => fun k d T mg K hk hT hV hd hdm hm hn _ _ => by
    have := dmt_le T mg
    omega
  | n + 1 => fun k d T mg K hk hT hV hd hdm hm hn hs hf => by
    have hdl := dmt_le T mg
    show wp_X3_finds (wp_X3_findsN n) (zI k) (zI d) (SX σ (Int32.ofNat T) mg) K
    unfold wp_X3_finds
    rw [zl_5]
    refine br_le (by omega) (by omega) (fun c => absurd c (by omega)) (fun _ => ?_)
    refine br_lt0 (by omega) (fun c => absurd c (by omega)) (fun _ => ?_)
    refine br_lt (by omega) (by omega) (fun _ => ⟨11, ?_⟩) (fun c => absurd c (by omega))
    exact findsLoop hF h16 (finds_all hF h16 n) hk hV hd hm (by omega) hs hf 10 0 T (by decide) (by decide) ⟨hT, fun _ _ _ h => h, fun v _ _ h1 h2 => by rw [h1] at h2; exact absurd h2 (by decide)⟩ hdm (fun w w1 w2 => absurd w1 (by omega))
