/-! guards for gates: the model's table -/
theorem st_iu (X : Mem) (c d : Nat) (hcd : c ≠ d) (f : Nat → Int32) (i : Nat) (v : Int32) : st (va_up X d f) c i v = va_up (st X c i v) d f := by
  funext q k
  by_cases h : q = c
  · subst h
    have e1 : ∀ Y : Mem, va_up Y d f q = Y q := fun Y => by unfold va_up; rw [if_neg hcd]
    by_cases h2 : k = i
    · subst h2; rw [st_e, e1, st_e]
    · rw [st_j _ _ _ h2, e1, e1, st_j _ _ _ h2]
  · rw [st_c _ _ _ h]
    unfold va_up
    by_cases h2 : q = d
    · rw [if_pos h2, if_pos h2]
    · rw [if_neg h2, if_neg h2, st_c _ _ _ h]
/-- the table's entry of Y, with what the guard u brings from the sets above x, and from x by the gates below j -/
def mdb (F : Int → Nat) (u x j Y : Nat) : Bool := Mt F u Y || (List.range 5).any (fun k => mb Y (k : Nat) && (mb (F (k : Nat)) (u : Nat) && (Mt F u (Y - 2 ^ k) && (decide (x < Y - 2 ^ k) || (decide (Y - 2 ^ k = x) && decide (k < j))))))
theorem mdb_iff {F : Int → Nat} {u x j Y : Nat} : mdb F u x j Y = true ↔ (Mt F u Y = true ∨ ∃ k : Nat, k < 5 ∧ mb Y k = true ∧ mb (F k) u = true ∧ Mt F u (Y - 2 ^ k) = true ∧ (x < Y - 2 ^ k ∨ (Y - 2 ^ k = x ∧ k < j))) := by
  unfold mdb
  rw [Bool.or_eq_true, List.any_eq_true]
  constructor
  · rintro (h | ⟨k, h1, h2⟩)
    · exact Or.inl h
    · simp only [Bool.and_eq_true, Bool.or_eq_true, decide_eq_true_iff] at h2
      exact Or.inr ⟨k, List.mem_range.1 h1, h2.1, h2.2.1, h2.2.2.1, h2.2.2.2⟩
  · rintro (h | ⟨k, h1, h2, h3, h4, h5⟩)
    · exact Or.inl h
    · refine Or.inr ⟨k, List.mem_range.2 h1, ?_⟩
      simp only [Bool.and_eq_true, Bool.or_eq_true, decide_eq_true_iff]
      exact ⟨h2, h3, h4, h5⟩
def vb (b : Bool) (Y : Nat) : Int := if b = true then (sb Y : Int) else -1
theorem bl_eq {a b : Bool} (h : a = true ↔ b = true) : a = b := by
  cases a <;> cases b <;> simp_all
theorem mdb_top {F : Int → Nat} {u Y : Nat} (hY : Y < 32) : mdb F u 31 0 Y = Mt F u Y := by
  apply bl_eq
  rw [mdb_iff]
  constructor
  · rintro (h | ⟨k, h1, h2, h3, h4, h5⟩)
    · exact h
    · have := s_4 Y hY k h1 h2
      omega
  · exact Or.inl
theorem mdb_next {F : Int → Nat} {u x j Y : Nat} (hx : x ≠ 0) (hj : ∀ k : Nat, k < 5 → mb (F k) u = true → k < j) : mdb F u x j Y = mdb F u (x - 1) 0 Y := by
  apply bl_eq
  rw [mdb_iff, mdb_iff]
  constructor
  · rintro (h | ⟨k, h1, h2, h3, h4, h5⟩)
    · exact Or.inl h
    · exact Or.inr ⟨k, h1, h2, h3, h4, Or.inl (by omega)⟩
  · rintro (h | ⟨k, h1, h2, h3, h4, h5⟩)
    · exact Or.inl h
    · have := hj k h1 h3
      exact Or.inr ⟨k, h1, h2, h3, h4, by omega⟩
theorem mdb_end {F : Int → Nat} {u j Y : Nat} (hj : ∀ k : Nat, k < 5 → mb (F k) u = true → k < j) : mdb F u 0 j Y = Mt F (u + 1) Y := by
  apply bl_eq
  rw [mdb_iff, Mt_s]
  constructor
  · rintro (h | ⟨k, h1, h2, h3, h4, h5⟩)
    · exact Or.inl h
    · exact Or.inr ⟨k, h1, h2, h3, h4⟩
  · rintro (h | ⟨k, h1, h2, h3, h4⟩)
    · exact Or.inl h
    · have := hj k h1 h3
      exact Or.inr ⟨k, h1, h2, h3, h4, by omega⟩
theorem mdb_self {F : Int → Nat} {u x j : Nat} (hx : x < 32) : mdb F u x j x = Mt F u x := by
  apply bl_eq
  rw [mdb_iff]
  constructor
  · rintro (h | ⟨k, h1, h2, h3, h4, h5⟩)
    · exact h
    · have := s_4 x hx k h1 h2
      omega
  · exact Or.inl
theorem mdb_s {F : Int → Nat} {u x j Y : Nat} (hj5 : j < 5) (hY : Y < 32) : mdb F u x (j + 1) Y = (mdb F u x j Y || (decide (Y = x ||| 2 ^ j) && (mb Y (j : Nat) && (decide (Y - 2 ^ j = x) && (mb (F (j : Nat)) (u : Nat) && Mt F u x))))) := by
  apply bl_eq
  simp only [Bool.or_eq_true, Bool.and_eq_true, decide_eq_true_iff, mdb_iff]
  constructor
  · rintro (h | ⟨k, h1, h2, h3, h4, h5⟩)
    · exact Or.inl (Or.inl h)
    · by_cases c : x < Y - 2 ^ k ∨ (Y - 2 ^ k = x ∧ k < j)
      · exact Or.inl (Or.inr ⟨k, h1, h2, h3, h4, c⟩)
      · have e : k = j := by omega
        subst e
        have e2 : Y - 2 ^ k = x := by omega
        have h6 := s_4 Y hY k h1 h2
        rw [e2] at h4 h6
        exact Or.inr ⟨h6.2.1.symm, h2, e2, h3, h4⟩
  · rintro ((h | ⟨k, h1, h2, h3, h4, h5⟩) | ⟨h1, h2, h3, h4, h5⟩)
    · exact Or.inl h
    · exact Or.inr ⟨k, h1, h2, h3, h4, by omega⟩
    · exact Or.inr ⟨j, hj5, h2, h4, by rw [h3]; exact h5, Or.inr ⟨h3, by omega⟩⟩
theorem or_same : ∀ x < 32, ∀ j < 5, (x ||| 2 ^ j = x ↔ mb x (j : Nat) = true) := by decide +kernel
theorem or_in : ∀ x < 32, ∀ j < 5, mb (x ||| 2 ^ j) (j : Nat) = true ∧ (x ||| 2 ^ j) < 32 := by decide +kernel
def TB (σ : Mem) (y : Int32) (row : Nat → Int32) : Mem := va_up (st σ 25 16 y) 32 row
theorem TB_16 (σ : Mem) (y z : Int32) (row : Nat → Int32) : st (TB σ y row) 25 16 z = TB σ z row := by
  unfold TB
  rw [st_iu _ _ _ (by decide), st_st]
section T0
variable {a : Nat → Int} {σ : Mem}
theorem FF_mb (hW : WF a) {s u : Int} {k : Nat} (hu : 0 ≤ u ∧ u < a 1) : mb (FF a s k) u = (decide ((k : Int) < a 0) && decide (rsn a k s u = 0)) := by
  have hc := hW.c
  unfold FF
  by_cases c : (k : Int) < a 0
  · rw [if_pos ⟨by omega, c⟩, fmN_mb a k s _ u hu.1, decide_eq_true c, decide_eq_true (show u < ((a 1).toNat : Nat) by omega)]
  · rw [if_neg (fun x => c x.2), mb_0, decide_eq_false c, Bool.false_and]
theorem FF_out (hW : WF a) {s u : Int} {k : Nat} (hu : a 1 ≤ u) : mb (FF a s k) u = false := by
  have hc := hW.c
  unfold FF
  split
  · rw [fmN_mb a k s _ u (by omega), decide_eq_false (by omega), Bool.false_and]
  · exact mb_0 u
/-- the rows of the table: by gates -/
theorem m_tabG {K : Int32 → Mem → Prop} {B52 : Int32 × Int32 × Mem → Prop} {B65 : Int32 × Int32 × Int32 × Mem → Prop} (hG : RG a (σ 26)) (hW : WF a) {s : Int} (hs : 0 ≤ s ∧ s < 28) {u x : Nat} (hu : (u : Int) < a 1) (hx : x < 32)
    (h : ∀ (y : Int32) (row : Nat → Int32), (∀ Y : Nat, Y < 32 → row Y = zI (vb (mdb (FF a s) u x (a 0).toNat Y) Y)) → B65 (zI s, zI u, zI ((x : Int) - 1), TB σ y row)) : ∀ (r j : Nat) (y : Int32) (row : Nat → Int32), (j : Int) + r = a 0 → (∀ Y : Nat, Y < 32 → row Y = zI (vb (mdb (FF a s) u x j Y) Y)) → wlp (wpF_X5_most_72 K B52 B65) (r + 1) (zI s, zI u, zI x, zI j, TB σ y row)
  | 0, j, y, row, hj, hrow => by
    have hc := hW.c
    show wpS_X5_most_72 K B52 B65 _ (zI s) (zI u) (zI x) (zI j) (TB σ y row)
    unfold wpS_X5_most_72 wpJ_X5_most_156
    rw [show TB σ y row 26 = σ 26 from rfl, hG.1]
    refine br_le (by omega) (by omega) (fun _ v16 e16 => ?_) (fun c => absurd c (by omega))
    rw [zl_m1, zI_add, show (x : Int) + -1 = x - 1 by omega] at e16
    subst e16
    refine h y row ?_
    rw [show (a 0).toNat = j by omega]
    exact hrow
  | r + 1, j, y, row, hj, hrow => by
    have hc := hW.c
    have hj5 : j < 5 := by omega
    have hnx : ∀ (y : Int32) (row : Nat → Int32), (∀ Y : Nat, Y < 32 → row Y = zI (vb (mdb (FF a s) u x (j + 1) Y) Y)) → wlp (wpF_X5_most_72 K B52 B65) (r + 1) (zI s, zI u, zI x, zI ((j : Int) + 1), TB σ y row) := fun y row hr => m_tabG hG hW hs hu hx h r (j + 1) y row (by omega) hr
    have hin := or_in x hx j hj5
    have hsb1 := s_5 x hx
    have hsb2 := s_5 _ hin.2
    have hkeep : (¬ (mb x (j : Nat) = false ∧ mb (FF a s j) (u : Nat) = true ∧ Mt (FF a s) u x = true) ∨ mdb (FF a s) u x j (x ||| 2 ^ j) = true) → ∀ Y : Nat, Y < 32 → row Y = zI (vb (mdb (FF a s) u x (j + 1) Y) Y) := fun hk Y hY => by
      rw [hrow Y hY, mdb_s hj5 hY]
      by_cases e : Y = x ||| 2 ^ j
      · rcases hk with hk | hk
        · have : (decide (Y = x ||| 2 ^ j) && (mb Y (j : Nat) && (decide (Y - 2 ^ j = x) && (mb (FF a s j) (u : Nat) && Mt (FF a s) u x)))) = false := by
            rw [Bool.eq_false_iff]
            intro hh
            simp only [Bool.and_eq_true, decide_eq_true_iff] at hh
            refine hk ⟨?_, hh.2.2.2.1, hh.2.2.2.2⟩
            have := (s_4 Y hY j hj5 hh.2.1).2.2.1
            rwa [hh.2.2.1] at this
          rw [this, Bool.or_false]
        · rw [e, hk, Bool.true_or]
      · rw [decide_eq_false e, Bool.false_and, Bool.or_false]
    show wpS_X5_most_72 K B52 B65 (wlp (wpF_X5_most_72 K B52 B65) (r + 1)) (zI s) (zI u) (zI x) (zI j) (TB σ y row)
    unfold wpS_X5_most_72 wpJ_X5_most_150
    rw [show TB σ y row 26 = σ 26 from rfl, hG.1]
    refine br_le (by omega) (by omega) (fun c => absurd c (by omega)) (fun _ v17 e17 => ?_)
    rw [zI_n x, zI_n j, sh_2 _ (by omega), i_or, ← zI_n] at e17
    subst e17
    refine br_eq (by omega) (by omega) (fun c v19 e19 => ?_) (fun c => ?_)
    · rw [zl_1, zI_add] at e19
      subst e19
      refine hnx y row (hkeep (Or.inl (fun hh => ?_)))
      rw [(or_same x hx j hj5).1 (by omega)] at hh
      exact absurd hh.1 (by decide)
    · have hxj : mb x (j : Nat) = false := by
        cases e : mb x (j : Nat) with
        | false => rfl
        | true => exact absurd (congrArg (fun n : Nat => (n : Int)) ((or_same x hx j hj5).2 e)) c
      have ex : TB σ y row 32 x = zI (vb (Mt (FF a s) u x) x) := by
        show row x = _
        rw [hrow x hx, mdb_self hx]
      refine ⟨zI_in (by omega) (by omega) (by decide), ?_⟩
      rw [zI_nat (by omega) (by omega), Int.toNat_natCast, ex]
      have hvr : -1 ≤ vb (Mt (FF a s) u x) x ∧ vb (Mt (FF a s) u x) x ≤ 5 := by unfold vb; split <;> omega
      refine br_lt0 (by omega) (fun c2 v19 e19 => ?_) (fun c2 => ?_)
      · rw [zl_1, zI_add] at e19
        subst e19
        refine hnx y row (hkeep (Or.inl (fun hh => ?_)))
        unfold vb at c2
        rw [if_pos hh.2.2] at c2
        omega
      · have hMt : Mt (FF a s) u x = true := by
          cases e : Mt (FF a s) u x with
          | true => rfl
          | false =>
            rw [e] at c2
            have : vb false x = -1 := rfl
            omega
        have hFm := FF_mb (k := j) hW (s := s) (u := (u : Int)) ⟨by omega, hu⟩
        rw [decide_eq_true (show (j : Int) < a 0 by omega), Bool.true_and] at hFm
        have hr := rsn_rng a j s u
        refine m_refuses (σ := TB σ y row) hG hW ⟨by omega, by omega⟩ hs ⟨by omega, hu⟩ ?_
        rw [TB_16]
        refine br_n0 (by omega) (fun c3 => ?_) (fun c3 v19 e19 => ?_)
        · have ex2 : ∀ z, TB σ z row 32 x = zI (sb x : Int) := fun z => by
            rw [show TB σ z row 32 x = TB σ y row 32 x from rfl, ex]
            unfold vb
            rw [if_pos hMt]
          have ey : ∀ z, TB σ z row 32 (x ||| 2 ^ j) = zI (vb (mdb (FF a s) u x j (x ||| 2 ^ j)) (x ||| 2 ^ j)) := fun z => hrow _ hin.2
          have hs3 := s_3 x hx j hj5 hxj
          refine ⟨zI_in (by omega) (by omega) (by decide), zI_in (by omega) (by omega) (by decide), ?_⟩
          rw [zI_nat (by omega) (by omega), Int.toNat_natCast, ex2, ey, zl_1, zI_add]
          have hvr2 : -1 ≤ vb (mdb (FF a s) u x j (x ||| 2 ^ j)) (x ||| 2 ^ j) ∧ vb (mdb (FF a s) u x j (x ||| 2 ^ j)) (x ||| 2 ^ j) ≤ 5 := by unfold vb; split <;> omega
          refine br_le (by omega) (by omega) (fun c4 v19 e19 => ?_) (fun c4 => ?_)
          · rw [zI_add] at e19
            subst e19
            refine hnx _ row (hkeep (Or.inr ?_))
            cases e : mdb (FF a s) u x j (x ||| 2 ^ j) with
            | true => rfl
            | false =>
              rw [e] at c4
              have : vb false (x ||| 2 ^ j) = -1 := rfl
              omega
          · refine ⟨zI_in (by omega) (by omega) (by decide), zI_in (by omega) (by omega) (by decide), fun σ25 e25 v19 e19 => ?_⟩
            rw [show st (TB σ (zI (dtl a j s u)) row) 32 (x ||| 2 ^ j) (zI ((sb x : Int) + 1)) = TB σ (zI (dtl a j s u)) (upd row (x ||| 2 ^ j) (zI ((sb x : Int) + 1))) from st_u _ _ _ _ _] at e25
            rw [zI_add] at e19
            subst e25; subst e19
            refine hnx _ _ (fun Y hY => ?_)
            rw [mdb_s hj5 hY]
            unfold upd
            by_cases e : Y = x ||| 2 ^ j
            · rw [if_pos e, e, hin.1, hs3.1, hFm, decide_eq_true c3, hMt, decide_eq_true rfl, decide_eq_true rfl]
              simp only [Bool.and_true, Bool.or_true]
              unfold vb
              rw [if_pos rfl, hs3.2.1]
              rfl
            · rw [if_neg e, hrow Y hY, decide_eq_false e, Bool.false_and, Bool.or_false]
        · rw [zl_1, zI_add] at e19
          subst e19
          refine hnx _ row (hkeep (Or.inl (fun hh => ?_)))
          rw [hFm] at hh
          exact c3 (of_decide_eq_true hh.2.1)
def mdr (F : Int → Nat) (u r Y : Nat) : Bool := if r = 0 then Mt F (u + 1) Y else mdb F u (r - 1) 0 Y
theorem m_tabS {K : Int32 → Mem → Prop} {B52 : Int32 × Int32 × Mem → Prop} (hG : RG a (σ 26)) (hW : WF a) {s : Int} (hs : 0 ≤ s ∧ s < 28) {u : Nat} (hu : (u : Int) < a 1)
    (h : ∀ (y : Int32) (row : Nat → Int32), (∀ Y : Nat, Y < 32 → row Y = zI (vb (Mt (FF a s) (u + 1) Y) Y)) → B52 (zI s, zI ((u : Int) + 1), TB σ y row)) : ∀ (r : Nat) (y : Int32) (row : Nat → Int32), r ≤ 32 → (∀ Y : Nat, Y < 32 → row Y = zI (vb (mdr (FF a s) u r Y) Y)) → wlp (wpF_X5_most_65 K B52) (r + 1) (zI s, zI u, zI ((r : Int) - 1), TB σ y row)
  | 0, y, row, hr, hrow => by
    have hc := hW.c
    show wpS_X5_most_65 K B52 _ (zI s) (zI u) (zI (((0 : Nat) : Int) - 1)) (TB σ y row)
    unfold wpS_X5_most_65 wpJ_X5_most_162
    refine br_lt0 (by omega) (fun _ v14 e14 => ?_) (fun c => absurd c (by omega))
    rw [zl_1, zI_add] at e14
    subst e14
    exact h y row hrow
  | r + 1, y, row, hr, hrow => by
    have hc := hW.c
    show wpS_X5_most_65 K B52 (wlp (wpF_X5_most_65 K B52) (r + 1)) (zI s) (zI u) (zI (((r + 1 : Nat) : Int) - 1)) (TB σ y row)
    rw [show ((r + 1 : Nat) : Int) - 1 = r by omega]
    unfold wpS_X5_most_65
    refine br_lt0 (by omega) (fun c => absurd c (by omega)) (fun _ => ⟨(a 0).toNat + 1, ?_⟩)
    have hj : ∀ k : Nat, k < 5 → mb (FF a s k) (u : Nat) = true → k < (a 0).toNat := fun k k1 k2 => by
      rw [FF_mb hW ⟨by omega, hu⟩, Bool.and_eq_true, decide_eq_true_iff] at k2
      omega
    refine m_tabG hG hW hs hu (by omega) (fun y2 row2 h2 => m_tabS hG hW hs hu h r y2 row2 (by omega) (fun Y hY => ?_)) (a 0).toNat 0 y row (by omega) (fun Y hY => ?_)
    · rw [h2 Y hY]
      unfold mdr
      by_cases e : r = 0
      · subst e
        rw [if_pos rfl, mdb_end hj]
      · rw [if_neg e, mdb_next e hj]
    · exact hrow Y hY
theorem m_tabU {K : Int32 → Mem → Prop} (hG : RG a (σ 26)) (hW : WF a) {s : Int} (hs : 0 ≤ s ∧ s < 28)
    (h : ∀ (y : Int32) (row : Nat → Int32), K (zI (mxF (bst (FF a s) (a 1).toNat) 32)) (TB σ y row)) : ∀ (r u : Nat) (y : Int32) (row : Nat → Int32), (u : Int) + r = a 1 → (∀ Y : Nat, Y < 32 → row Y = zI (vb (Mt (FF a s) u Y) Y)) → wlp (wpF_X5_most_52 K) (r + 1) (zI s, zI u, TB σ y row)
  | 0, u, y, row, hu, hrow => by
    have hc := hW.c
    show wpS_X5_most_52 K _ (zI s) (zI u) (TB σ y row)
    unfold wpS_X5_most_52 wpJ_X5_most_168
    rw [show TB σ y row 26 = σ 26 from rfl, hG.2.1]
    refine br_le (by omega) (by omega) (fun _ => ?_) (fun c => absurd c (by omega))
    have hu2 : (a 1).toNat = u := by omega
    rw [hu2] at h
    have h9 := lpI (F := wpF_X5_most_172 K) (fun i => (zI (mxF (bst (FF a s) u) i.toNat), zI i, TB σ y row)) (fun i => 0 ≤ i) 32 (fun B hP => ?_) (fun i B hi hP hB => ?_) 0 (by decide) (by decide)
    · exact h9
    · show wpS_X5_most_172 K B (zI (mxF (bst (FF a s) u) 32)) (zI 32) (TB σ y row)
      exact ⟨fun _ => h y row, fun c => absurd (by decide) c⟩
    · show wpS_X5_most_172 K B (zI (mxF (bst (FF a s) u) i.toNat)) (zI i) (TB σ y row)
      have hB2 := hB (by omega)
      rw [show (i + 1).toNat = i.toNat + 1 by omega, show mxF (bst (FF a s) u) (i.toNat + 1) = if mxF (bst (FF a s) u) i.toNat < bst (FF a s) u i.toNat then bst (FF a s) u i.toNat else mxF (bst (FF a s) u) i.toNat from rfl] at hB2
      have hbr : ∀ X, X < 32 → -1 ≤ bst (FF a s) u X ∧ bst (FF a s) u X ≤ 5 := fun X hX => by
        have := s_5 X hX
        unfold bst
        split <;> omega
      have h0 := mxF_0 (bst (FF a s) u) i.toNat
      have h5 : mxF (bst (FF a s) u) i.toNat ≤ 5 := by
        rcases mxF_is (bst (FF a s) u) i.toNat with e | ⟨j, j1, j2⟩
        · omega
        · have := hbr j (by omega); omega
      have hbi := hbr i.toNat (by omega)
      have e : TB σ y row 32 (zI i).toNatClampNeg = zI (bst (FF a s) u i.toNat) := by
        rw [zI_nat hP (by omega)]
        exact hrow i.toNat (by omega)
      unfold wpS_X5_most_172 wpJ_X5_most_195
      rw [e]
      refine br_le (x := 32) (by omega) (by omega) (fun c => absurd c (by omega)) (fun _ => ?_)
      refine ⟨zI_in (by omega) (by omega) (by decide), br_le (by omega) (by omega) (fun c v11 e11 => ?_) (fun c => ⟨zI_in (by omega) (by omega) (by decide), fun v12 e12 v11 e11 => ?_⟩)⟩
      · rw [zl_1, zI_add] at e11
        subst e11
        rw [if_neg (by omega)] at hB2
        exact hB2
      · rw [zl_1, zI_add] at e11
        subst e11; subst e12
        rw [if_pos c] at hB2
        exact hB2
  | r + 1, u, y, row, hu, hrow => by
    have hc := hW.c
    show wpS_X5_most_52 K (wlp (wpF_X5_most_52 K) (r + 1)) (zI s) (zI u) (TB σ y row)
    unfold wpS_X5_most_52
    rw [show TB σ y row 26 = σ 26 from rfl, hG.2.1]
    refine br_le (by omega) (by omega) (fun c => absurd c (by omega)) (fun _ => ⟨33, ?_⟩)
    refine m_tabS hG hW hs (u := u) (by omega) (fun y2 row2 h2 => m_tabU hG hW hs h r (u + 1) y2 row2 (by omega) h2) 32 y row (by decide) (fun Y hY => ?_)
    rw [hrow Y hY]
    unfold mdr
    rw [if_neg (by decide), show 32 - 1 = 31 from rfl, mdb_top hY]
theorem Mt_ext (hW : WF a) (s : Int) : ∀ (d : Nat) (X : Nat), Mt (FF a s) ((a 1).toNat + d) X = Mt (FF a s) (a 1).toNat X
  | 0, _ => rfl
  | d + 1, X => by
    have hc := hW.c
    rw [← Mt_ext hW s d X]
    apply bl_eq
    rw [show (a 1).toNat + (d + 1) = (a 1).toNat + d + 1 by omega, Mt_s]
    constructor
    · rintro (h | ⟨k, h1, h2, h3, h4⟩)
      · exact h
      · rw [FF_out hW (by omega)] at h3
        exact absurd h3 (by decide)
    · exact Or.inl
theorem bst_ext (hW : WF a) (s : Int) : bst (FF a s) (a 1).toNat = bst (FF a s) 10 := by
  have hc := hW.c
  funext X
  unfold bst
  have := Mt_ext hW s (10 - (a 1).toNat) X
  rw [show (a 1).toNat + (10 - (a 1).toNat) = 10 by omega] at this
  rw [this]
def ir (n : Int) (c : Nat → Int32) : Nat → Int32 := fun j => if (j : Int) < n then (if j = 0 then 0 else zI (-1)) else c j
theorem m_most {K : Int32 → Mem → Prop} (hG : RG a (σ 26)) (hW : WF a) {s : Int} (hs : -2147483648 ≤ s ∧ s < 2147483648) (h1 : ¬ (0 ≤ s ∧ s < 28) → K 0 (st σ 25 7 1)) (h : (0 ≤ s ∧ s < 28) → ∀ (y : Int32) (row : Nat → Int32), K (zI (MFF (FF a s))) (TB (st σ 25 7 0) y row)) : wp_X5_most (zI s) σ K := by
  have hc := hW.c
  unfold wp_X5_most wpJ_X5_most_13
  refine m_isSlot hs (fun c1 c2 => one_ne (m_f0 (zero_eq ?_))) (fun c => zero_eq (m_f1 (n := 1) (by decide) (one_ne (h1 c))))
  have h9 := lpI (F := wpF_X5_most_23 K) (fun i => (zI s, zI i, va_up (st σ 25 7 0) 32 (ir i (σ 32)))) (fun i => 0 ≤ i) 32 (fun B hP => ?_) (fun i B hi hP hB => ?_) 0 (by decide) (by decide)
  · have e0 : ir 0 (σ 32) = (st σ 25 7 0) 32 := by
      funext j
      exact if_neg (by omega)
    rw [e0, up_s] at h9
    exact h9
  · show wpS_X5_most_23 K B (zI s) (zI 32) (va_up (st σ 25 7 0) 32 (ir 32 (σ 32)))
    refine ⟨fun _ => ⟨(a 1).toNat + 1, ?_⟩, fun c => absurd (by decide) c⟩
    have hU := m_tabU (σ := st σ 25 7 0) (K := K) hG hW (s := s) ⟨c1, c2⟩ (fun y row => by
      rw [bst_ext hW]
      exact h ⟨c1, c2⟩ y row) (a 1).toNat 0 (st σ 25 7 0 25 16) (ir 32 (σ 32)) (by omega) (fun Y hY => by
      unfold ir
      rw [if_pos (by omega)]
      by_cases e : Y = 0
      · rw [if_pos e, e]; rfl
      · rw [if_neg e]
        have : Mt (FF a s) 0 Y = false := decide_eq_false e
        rw [this]; rfl)
    unfold TB at hU
    rw [st_s] at hU
    exact hU
  · show wpS_X5_most_23 K B (zI s) (zI i) (va_up (st σ 25 7 0) 32 (ir i (σ 32)))
    have hB2 := hB (by omega)
    have hst : ∀ v : Int32, v = (if i = 0 then 0 else zI (-1)) → wpJ_X5_most_43 K B (zI s) (zI i) (zI i) v (va_up (st σ 25 7 0) 32 (ir i (σ 32))) := fun v hv => by
      unfold wpJ_X5_most_43
      refine ⟨zI_in (by omega) (by omega) (by decide), fun σ27 e27 v28 e28 => ?_⟩
      rw [zI_nat hP (by omega), st_u] at e27
      rw [zl_1, zI_add] at e28
      subst e27; subst e28
      have e : upd (ir i (σ 32)) i.toNat v = ir (i + 1) (σ 32) := by
        funext j
        unfold upd ir
        by_cases c : j = i.toNat
        · rw [if_pos c, if_pos (by omega), hv]
          by_cases d : i = 0
          · rw [if_pos d, if_pos (by omega)]
          · rw [if_neg d, if_neg (by omega)]
        · rw [if_neg c]
          by_cases d : (j : Int) < i
          · rw [if_pos d, if_pos (show (j : Int) < i + 1 by omega)]
          · rw [if_neg d, if_neg (show ¬ (j : Int) < i + 1 by omega)]
      rw [e]
      exact hB2
    unfold wpS_X5_most_23
    refine br_le (x := 32) (by omega) (by omega) (fun c => absurd c (by omega)) (fun _ => ?_)
    exact br_n0 (by omega) (fun c => hst 0 (by rw [if_pos c])) (fun c => hst (-1) (by rw [if_neg c]; exact zl_m1))
theorem q_most (hR : RC a (σ 2)) (hW : WF a) {s : Int} (hs : 0 ≤ s ∧ s < 28) {K : Int32 → Mem → Prop} (h : ∀ (y : Int32) (f g : Nat → Int32), K (zI (MFF (FF a s))) (va_up (st (va_up σ 16 g) 15 2 y) 17 f)) : wp_X3_prepare (zI s) σ (fun σ2 => wp_X3_countByPaths σ2 (fun r4 σ3 => K r4 σ3)) := by
  refine q_prepare hR hW hs ?_
  exact q_countByPaths (F := FF a s) (fun k _ _ => FF_lt hW s k) (fun k h0 h5 => fr_16 (FF a s) (σ 16) h0 h5) (fun y f => h y f _)
theorem ex_findsN : ∀ (n : Nat) (x1 x2 : Int32) (σ : Mem) (K : Int32 → Mem → Prop), wp_X3_findsN n x1 x2 σ K → ∃ r σ', K r σ'
  | 0, _, _, _, _, h => False.elim h
  | n + 1, x1, x2, σ, K, h => by
    have hL : ∀ (m : Nat) (x3 : Int32) (σ : Mem), wlp (wpF_X3_finds_18 (wp_X3_findsN n) K) m (x1, x2, x3, σ) → ∃ r σ', K r σ' := by
      intro m
      induction m with
      | zero => intro x3 σ h; exact False.elim h
      | succ m ih =>
        intro x3 σ h
        have h2 : wpS_X3_finds_18 (wp_X3_findsN n) K (wlp (wpF_X3_finds_18 (wp_X3_findsN n) K) m) x1 x2 x3 σ := h
        unfold wpS_X3_finds_18 wpJ_X3_finds_100 wpJ_X3_finds_89 at h2
        by_cases c : (10 : Int32) ≤ x3
        · exact ⟨_, _, h2.1 c⟩
        · have h3 := (h2.2 c _ rfl).2
          by_cases c2 : (σ 16 x1.toNatClampNeg) &&& ((1 : Int32) <<< (x3 &&& 31)) = (0 : Int32)
          · exact ih _ _ (h3.1 c2 _ rfl)
          · have h4 := h3.2 c2
            by_cases c3 : (σ 15 2) &&& ((1 : Int32) <<< (x3 &&& 31)) = (0 : Int32)
            · have h5 := (h4.2 c3 _ rfl).2 _ rfl
              by_cases c4 : (st σ 15 2 ((σ 15 2) ||| ((1 : Int32) <<< (x3 &&& 31)))) 17 x3.toNatClampNeg = (0 : Int32)
              · exact ⟨_, _, (h5.1 c4).2 _ rfl⟩
              · obtain ⟨r, σ', h6⟩ := ex_findsN n _ _ _ _ (h5.2 c4)
                by_cases c5 : r = (0 : Int32)
                · exact ih _ _ (h6.1 c5 _ rfl)
                · exact ⟨_, _, (h6.2 c5).2 _ rfl⟩
            · exact ih _ _ (h4.1 c3 _ rfl)
    have h2 : wp_X3_finds (wp_X3_findsN n) x1 x2 σ K := h
    unfold wp_X3_finds at h2
    by_cases c : (5 : Int32) ≤ x2
    · exact ⟨_, _, h2.1 c⟩
    · by_cases c2 : x1 < (0 : Int32)
      · exact ⟨_, _, (h2.2 c).1 c2⟩
      · by_cases c3 : x1 < (5 : Int32)
        · obtain ⟨m, h3⟩ := ((h2.2 c).2 c2).1 c3
          exact hL m _ _ h3
        · exact ⟨_, _, ((h2.2 c).2 c2).2 c3⟩
theorem KI_s {F : Int → Nat} (hF : ∀ k : Int, 0 ≤ k → k < 5 → F k < 1024) {i : Int} {mg : Int → Int} {R : Nat} (h0 : 0 ≤ i ∧ i < 5) (hI : KI F i mg R) : ∃ mg R, KI F (i + 1) mg R := by
  have hs := mt_sum1 hI.b
  have hz := hI.z i (Int.le_refl _) (by omega)
  have c0 := hI.c 0 (by decide) (by decide)
  have c1 := hI.c 1 (by decide) (by decide)
  have c2 := hI.c 2 (by decide) (by decide)
  have c3 := hI.c 3 (by decide) (by decide)
  have c4 := hI.c 4 (by decide) (by decide)
  have hm4 : mtd mg 10 ≤ 4 := by
    rcases (by omega : i = 0 ∨ i = 1 ∨ i = 2 ∨ i = 3 ∨ i = 4) with e | e | e | e | e <;> subst e <;> omega
  have hd0 : (0 : Int) ≤ dmt 0 mg := (cn_rng _ (by decide)).1
  have hw := finds_all hF (σ := va_up (fun _ _ => 0) 16 (fr F 5 (fun _ => 0))) (fun k k0 k5 => fr_16 F (fun _ => 0) k0 k5) 6 i 0 0 mg (fun _ _ => ∃ mg R, KI F (i + 1) mg R) h0 (by decide) ⟨hI.b, hI.f⟩ (by decide) hd0 hm4 (by decide) (fun z mh hS => ?_) (fun U hA => ?_)
  · obtain ⟨_, _, h⟩ := ex_findsN _ _ _ _ _ hw
    exact h
  · refine ⟨mh, R, hS.1.1, hS.1.2, fun k k1 k2 => ?_, fun k k1 k2 => ?_, hI.r, fun v v1 v2 v3 => ?_, fun k k1 k2 k3 => ?_⟩
    · have g1 := hS.2.1 k k1 k2
      have g2 := hI.c k k1 k2
      by_cases z : k = i
      · rw [if_pos z] at g1; rw [z] at g1 ⊢; omega
      · rw [if_neg z] at g1; omega
    · have g1 := hS.2.1 k (by omega) k2
      have g2 := hI.z k (by omega) k2
      rw [if_neg (show ¬ k = i by omega)] at g1
      omega
    · have h5 := (hS.2.2.2 R hI.cl).1 v v1 v2 v3
      rw [h5]
      exact hI.cl v v1 v2 v3
    · have := hS.2.1 k k1 (by omega)
      by_cases z : k = i
      · rw [if_pos z] at this; rw [z] at this k3; exact absurd k3 (by omega)
      · rw [if_neg z] at this
        exact hI.u k k1 (by omega) (by omega)
  · refine ⟨mg, R ||| U, hI.b, hI.f, hI.c, fun k k1 k2 => hI.z k (by omega) k2, Nat.or_lt_two_pow (n := 10) hI.r hA.1.1, fun v v1 v2 v3 => ?_, fun k k1 k2 k3 w w1 w2 w3 => ?_⟩
    · rw [mb_orG, Bool.or_eq_true] at v3
      rcases v3 with v3 | v3
      · have := hI.cl v v1 v2 v3
        exact ⟨this.1, fun w w1 w2 w3 => by rw [mb_orG, this.2 w w1 w2 w3, Bool.true_or]⟩
      · have := hA.1.2.2 v v1 v2 v3 (mb_0 v)
        exact ⟨this.1, fun w w1 w2 w3 => by rw [mb_orG, this.2 w w1 w2 w3, Bool.or_true]⟩
    · rw [mb_orG]
      by_cases z : k = i
      · rw [z] at w3
        rw [hA.2 w w1 w2 w3, Bool.or_true]
      · rw [hI.u k k1 (by omega) k3 w w1 w2 w3, Bool.true_or]
theorem KI_ex {F : Int → Nat} (hF : ∀ k : Int, 0 ≤ k → k < 5 → F k < 1024) : ∃ mg R, KI F 5 mg R := by
  have h0 : KI F 0 (fun _ => 0) 0 := ⟨fun _ _ _ => by show (0 : Int) ≤ 0 ∧ (0 : Int) ≤ 5; decide, fun _ _ _ c => absurd rfl c, fun k k1 k2 => by
        have : cnt (fun _ => 0) k = 0 := cn_nil (by decide) (fun v _ _ => decide_eq_false (show ¬ (0 : Int) = k + 1 by omega))
        omega, fun k k1 k2 => cn_nil (by decide) (fun v _ _ => decide_eq_false (show ¬ (0 : Int) = k + 1 by omega)), by decide, fun v _ _ c => by rw [mb_0] at c; exact absurd c (by decide), fun k k1 k2 => absurd k1 (by omega)⟩
  obtain ⟨_, _, h1⟩ := KI_s hF (by decide) h0
  obtain ⟨_, _, h2⟩ := KI_s hF (by decide) h1
  obtain ⟨_, _, h3⟩ := KI_s hF (by decide) h2
  obtain ⟨_, _, h4⟩ := KI_s hF (by decide) h3
  exact KI_s hF (by decide) h4
theorem q_mostS (hR : RC a (σ 2)) (hW : WF a) {s : Int} (hs : 0 ≤ s ∧ s < 28) (h18 : σ 18 0 = 0) {K : Int32 → Mem → Prop} (h : ∀ (f g : Nat → Int32), f 0 = 0 → K (zI (MFF (FF a s))) (va_up (va_up σ 16 g) 18 f)) : wp_X3_prepare (zI s) σ (fun σ2 => wp_X3_countBySets σ2 (fun r4 σ3 => K r4 σ3)) := by
  obtain ⟨mg, R, hI⟩ := KI_ex (F := FF a s) (fun k _ _ => FF_lt hW s k)
  refine q_prepare hR hW hs ?_
  refine q_countBySets (σ := va_up σ 16 (fr (FF a s) 5 (σ 16))) (F := FF a s) (fun k _ _ => FF_lt hW s k) (fun k h0 h5 => fr_16 (FF a s) (σ 16) h0 h5) h18 ?_
  rw [(most_eq (fun k _ _ => FF_lt hW s k) hI).2]
  exact h _ _ (by
    show nr (FF a s) 32 (σ 18) 0 = 0
    unfold nr
    rw [if_neg (fun x => x.2 rfl)]
    exact h18)
end T0
