/-! the text: the class's commands -/
def LSn : Nat → List Int
  | 0 => LS_0
  | 1 => LS_1
  | 2 => LS_2
  | 3 => LS_3
  | 4 => LS_4
  | 5 => LS_5
  | 6 => LS_6
  | 7 => LS_7
  | _ => []
def kdn (ch : Int → Int) (p : Int) : Int := if ch p = 103 then (if ch (p + 1) = 97 then 0 else if ch (p + 1) = 117 then 1 else -1) else if ch p = 102 then (if ch (p + 1) = 114 then 3 else if ch (p + 1) = 105 then 5 else if ch (p + 1) = 111 then 6 else -1) else if ch p = 100 then 2 else if ch p = 108 then 4 else if ch p = 112 then 7 else -1
def kq (ch : Int → Int) (p : Int) : Int := if ch p = 103 ∨ ch p = 102 then p + 1 else p
/-- what a command at p comes to: whether it is one, where it ends or goes wrong, its values -/
def res (ch : Int → Int) (p : Int) : Bool × Int × List Int := if kdn ch p = -1 then (false, kq ch p, []) else rd ch (LSn (kdn ch p).toNat) p
theorem rd_no {ch : Int → Int} {d p : Int} {ds : List Int} (hd : ¬ (d = 35 ∨ d = 37)) (h : ch p ≠ d) : rd ch (d :: ds) p = (false, p, []) := by
  show (if d = 35 ∨ d = 37 then _ else if ch p = d then rd ch ds (p + 1) else (false, p, [])) = _
  rw [if_neg hd, if_neg h]
theorem rd_go {ch : Int → Int} {d p : Int} {ds : List Int} (hd : ¬ (d = 35 ∨ d = 37)) (h : ch p = d) : rd ch (d :: ds) p = rd ch ds (p + 1) := by
  show (if d = 35 ∨ d = 37 then _ else if ch p = d then rd ch ds (p + 1) else (false, p, [])) = _
  rw [if_neg hd, if_pos h]
theorem rd_ge (ch : Int → Int) : ∀ (D : List Int) (p : Int), p ≤ (rd ch D p).2.1
  | [], p => Int.le_refl _
  | d :: ds, p => by
    have h1 := rd_ge ch ds (p + 1)
    have h2 := rd_ge ch ds (p + 2)
    show p ≤ (if d = 35 ∨ d = 37 then (if dg (ch p) = true then (if d = 37 ∧ dg (ch (p + 1)) = true then cv ((ch p - 48) * 10 + ch (p + 1) - 48) (rd ch ds (p + 2)) else cv (ch p - 48) (rd ch ds (p + 1))) else (false, p, [])) else if ch p = d then rd ch ds (p + 1) else (false, p, [])).2.1
    split
    · split
      · split
        · show p ≤ (rd ch ds (p + 2)).2.1
          omega
        · show p ≤ (rd ch ds (p + 1)).2.1
          omega
      · exact Int.le_refl _
    · split
      · omega
      · exact Int.le_refl _
theorem rd_len (ch : Int → Int) : ∀ (D : List Int) (p : Int), (rd ch D p).1 = true → p + D.length ≤ (rd ch D p).2.1
  | [], p, _ => by show p + ((0 : Nat) : Int) ≤ p; omega
  | d :: ds, p, h => by
    have h1 := rd_len ch ds (p + 1)
    have h2 := rd_len ch ds (p + 2)
    rw [List.length_cons]
    change (if d = 35 ∨ d = 37 then (if dg (ch p) = true then (if d = 37 ∧ dg (ch (p + 1)) = true then cv ((ch p - 48) * 10 + ch (p + 1) - 48) (rd ch ds (p + 2)) else cv (ch p - 48) (rd ch ds (p + 1))) else (false, p, [])) else if ch p = d then rd ch ds (p + 1) else (false, p, [])).1 = true at h
    show p + ((ds.length + 1 : Nat) : Int) ≤ (if d = 35 ∨ d = 37 then (if dg (ch p) = true then (if d = 37 ∧ dg (ch (p + 1)) = true then cv ((ch p - 48) * 10 + ch (p + 1) - 48) (rd ch ds (p + 2)) else cv (ch p - 48) (rd ch ds (p + 1))) else (false, p, [])) else if ch p = d then rd ch ds (p + 1) else (false, p, [])).2.1
    by_cases c1 : d = 35 ∨ d = 37
    · rw [if_pos c1] at h ⊢
      by_cases c2 : dg (ch p) = true
      · rw [if_pos c2] at h ⊢
        by_cases c3 : d = 37 ∧ dg (ch (p + 1)) = true
        · rw [if_pos c3] at h ⊢
          have := h2 h
          show p + ((ds.length + 1 : Nat) : Int) ≤ (rd ch ds (p + 2)).2.1
          omega
        · rw [if_neg c3] at h ⊢
          have := h1 h
          show p + ((ds.length + 1 : Nat) : Int) ≤ (rd ch ds (p + 1)).2.1
          omega
      · rw [if_neg c2] at h
        exact Bool.noConfusion (show false = true from h)
    · rw [if_neg c1] at h ⊢
      by_cases c2 : ch p = d
      · rw [if_pos c2] at h ⊢
        have := h1 h
        omega
      · rw [if_neg c2] at h
        exact Bool.noConfusion (show false = true from h)
theorem fp_0 (ch : Int → Int) (p : Int) : (ch p ≠ 103 → (rd ch LS_0 p).2.1 = p) ∧ (ch p = 103 → ch (p + 1) ≠ 97 → (rd ch LS_0 p).2.1 = p + 1) ∧ (ch p = 103 → ch (p + 1) = 97 → p + 2 ≤ (rd ch LS_0 p).2.1) ∧ ((rd ch LS_0 p).1 = true → ch p = 103 ∧ ch (p + 1) = 97) := by
  unfold LS_0
  refine ⟨fun h => by rw [rd_no (by decide) h], fun h h2 => by rw [rd_go (by decide) h, rd_no (by decide) h2], fun h h2 => ?_, fun hh => ?_⟩
  · rw [rd_go (by decide) h, rd_go (by decide) h2]
    have := rd_ge ch (LS_0.drop 2) (p + 1 + 1)
    change p + 1 + 1 ≤ _ at this
    exact Int.le_trans (by omega) this
  · by_cases h : ch p = 103
    · by_cases h2 : ch (p + 1) = 97
      · exact ⟨h, h2⟩
      · rw [rd_go (by decide) h, rd_no (by decide) h2] at hh
        exact Bool.noConfusion (show false = true from hh)
    · rw [rd_no (by decide) h] at hh
      exact Bool.noConfusion (show false = true from hh)
theorem fp_1 (ch : Int → Int) (p : Int) : (ch p ≠ 103 → (rd ch LS_1 p).2.1 = p) ∧ (ch p = 103 → ch (p + 1) ≠ 117 → (rd ch LS_1 p).2.1 = p + 1) ∧ (ch p = 103 → ch (p + 1) = 117 → p + 2 ≤ (rd ch LS_1 p).2.1) ∧ ((rd ch LS_1 p).1 = true → ch p = 103 ∧ ch (p + 1) = 117) := by
  unfold LS_1
  refine ⟨fun h => by rw [rd_no (by decide) h], fun h h2 => by rw [rd_go (by decide) h, rd_no (by decide) h2], fun h h2 => ?_, fun hh => ?_⟩
  · rw [rd_go (by decide) h, rd_go (by decide) h2]
    have := rd_ge ch (LS_1.drop 2) (p + 1 + 1)
    change p + 1 + 1 ≤ _ at this
    exact Int.le_trans (by omega) this
  · by_cases h : ch p = 103
    · by_cases h2 : ch (p + 1) = 117
      · exact ⟨h, h2⟩
      · rw [rd_go (by decide) h, rd_no (by decide) h2] at hh
        exact Bool.noConfusion (show false = true from hh)
    · rw [rd_no (by decide) h] at hh
      exact Bool.noConfusion (show false = true from hh)
theorem fp_2 (ch : Int → Int) (p : Int) : (ch p ≠ 100 → (rd ch LS_2 p).2.1 = p) ∧ (ch p = 100 → ch (p + 1) ≠ 117 → (rd ch LS_2 p).2.1 = p + 1) ∧ (ch p = 100 → ch (p + 1) = 117 → p + 2 ≤ (rd ch LS_2 p).2.1) ∧ ((rd ch LS_2 p).1 = true → ch p = 100 ∧ ch (p + 1) = 117) := by
  unfold LS_2
  refine ⟨fun h => by rw [rd_no (by decide) h], fun h h2 => by rw [rd_go (by decide) h, rd_no (by decide) h2], fun h h2 => ?_, fun hh => ?_⟩
  · rw [rd_go (by decide) h, rd_go (by decide) h2]
    have := rd_ge ch (LS_2.drop 2) (p + 1 + 1)
    change p + 1 + 1 ≤ _ at this
    exact Int.le_trans (by omega) this
  · by_cases h : ch p = 100
    · by_cases h2 : ch (p + 1) = 117
      · exact ⟨h, h2⟩
      · rw [rd_go (by decide) h, rd_no (by decide) h2] at hh
        exact Bool.noConfusion (show false = true from hh)
    · rw [rd_no (by decide) h] at hh
      exact Bool.noConfusion (show false = true from hh)
theorem fp_3 (ch : Int → Int) (p : Int) : (ch p ≠ 102 → (rd ch LS_3 p).2.1 = p) ∧ (ch p = 102 → ch (p + 1) ≠ 114 → (rd ch LS_3 p).2.1 = p + 1) ∧ (ch p = 102 → ch (p + 1) = 114 → p + 2 ≤ (rd ch LS_3 p).2.1) ∧ ((rd ch LS_3 p).1 = true → ch p = 102 ∧ ch (p + 1) = 114) := by
  unfold LS_3
  refine ⟨fun h => by rw [rd_no (by decide) h], fun h h2 => by rw [rd_go (by decide) h, rd_no (by decide) h2], fun h h2 => ?_, fun hh => ?_⟩
  · rw [rd_go (by decide) h, rd_go (by decide) h2]
    have := rd_ge ch (LS_3.drop 2) (p + 1 + 1)
    change p + 1 + 1 ≤ _ at this
    exact Int.le_trans (by omega) this
  · by_cases h : ch p = 102
    · by_cases h2 : ch (p + 1) = 114
      · exact ⟨h, h2⟩
      · rw [rd_go (by decide) h, rd_no (by decide) h2] at hh
        exact Bool.noConfusion (show false = true from hh)
    · rw [rd_no (by decide) h] at hh
      exact Bool.noConfusion (show false = true from hh)
theorem fp_4 (ch : Int → Int) (p : Int) : (ch p ≠ 108 → (rd ch LS_4 p).2.1 = p) ∧ (ch p = 108 → ch (p + 1) ≠ 101 → (rd ch LS_4 p).2.1 = p + 1) ∧ (ch p = 108 → ch (p + 1) = 101 → p + 2 ≤ (rd ch LS_4 p).2.1) ∧ ((rd ch LS_4 p).1 = true → ch p = 108 ∧ ch (p + 1) = 101) := by
  unfold LS_4
  refine ⟨fun h => by rw [rd_no (by decide) h], fun h h2 => by rw [rd_go (by decide) h, rd_no (by decide) h2], fun h h2 => ?_, fun hh => ?_⟩
  · rw [rd_go (by decide) h, rd_go (by decide) h2]
    have := rd_ge ch (LS_4.drop 2) (p + 1 + 1)
    change p + 1 + 1 ≤ _ at this
    exact Int.le_trans (by omega) this
  · by_cases h : ch p = 108
    · by_cases h2 : ch (p + 1) = 101
      · exact ⟨h, h2⟩
      · rw [rd_go (by decide) h, rd_no (by decide) h2] at hh
        exact Bool.noConfusion (show false = true from hh)
    · rw [rd_no (by decide) h] at hh
      exact Bool.noConfusion (show false = true from hh)
theorem fp_5 (ch : Int → Int) (p : Int) : (ch p ≠ 102 → (rd ch LS_5 p).2.1 = p) ∧ (ch p = 102 → ch (p + 1) ≠ 105 → (rd ch LS_5 p).2.1 = p + 1) ∧ (ch p = 102 → ch (p + 1) = 105 → p + 2 ≤ (rd ch LS_5 p).2.1) ∧ ((rd ch LS_5 p).1 = true → ch p = 102 ∧ ch (p + 1) = 105) := by
  unfold LS_5
  refine ⟨fun h => by rw [rd_no (by decide) h], fun h h2 => by rw [rd_go (by decide) h, rd_no (by decide) h2], fun h h2 => ?_, fun hh => ?_⟩
  · rw [rd_go (by decide) h, rd_go (by decide) h2]
    have := rd_ge ch (LS_5.drop 2) (p + 1 + 1)
    change p + 1 + 1 ≤ _ at this
    exact Int.le_trans (by omega) this
  · by_cases h : ch p = 102
    · by_cases h2 : ch (p + 1) = 105
      · exact ⟨h, h2⟩
      · rw [rd_go (by decide) h, rd_no (by decide) h2] at hh
        exact Bool.noConfusion (show false = true from hh)
    · rw [rd_no (by decide) h] at hh
      exact Bool.noConfusion (show false = true from hh)
theorem fp_6 (ch : Int → Int) (p : Int) : (ch p ≠ 102 → (rd ch LS_6 p).2.1 = p) ∧ (ch p = 102 → ch (p + 1) ≠ 111 → (rd ch LS_6 p).2.1 = p + 1) ∧ (ch p = 102 → ch (p + 1) = 111 → p + 2 ≤ (rd ch LS_6 p).2.1) ∧ ((rd ch LS_6 p).1 = true → ch p = 102 ∧ ch (p + 1) = 111) := by
  unfold LS_6
  refine ⟨fun h => by rw [rd_no (by decide) h], fun h h2 => by rw [rd_go (by decide) h, rd_no (by decide) h2], fun h h2 => ?_, fun hh => ?_⟩
  · rw [rd_go (by decide) h, rd_go (by decide) h2]
    have := rd_ge ch (LS_6.drop 2) (p + 1 + 1)
    change p + 1 + 1 ≤ _ at this
    exact Int.le_trans (by omega) this
  · by_cases h : ch p = 102
    · by_cases h2 : ch (p + 1) = 111
      · exact ⟨h, h2⟩
      · rw [rd_go (by decide) h, rd_no (by decide) h2] at hh
        exact Bool.noConfusion (show false = true from hh)
    · rw [rd_no (by decide) h] at hh
      exact Bool.noConfusion (show false = true from hh)
theorem fp_7 (ch : Int → Int) (p : Int) : (ch p ≠ 112 → (rd ch LS_7 p).2.1 = p) ∧ (ch p = 112 → ch (p + 1) ≠ 97 → (rd ch LS_7 p).2.1 = p + 1) ∧ (ch p = 112 → ch (p + 1) = 97 → p + 2 ≤ (rd ch LS_7 p).2.1) ∧ ((rd ch LS_7 p).1 = true → ch p = 112 ∧ ch (p + 1) = 97) := by
  unfold LS_7
  refine ⟨fun h => by rw [rd_no (by decide) h], fun h h2 => by rw [rd_go (by decide) h, rd_no (by decide) h2], fun h h2 => ?_, fun hh => ?_⟩
  · rw [rd_go (by decide) h, rd_go (by decide) h2]
    have := rd_ge ch (LS_7.drop 2) (p + 1 + 1)
    change p + 1 + 1 ≤ _ at this
    exact Int.le_trans (by omega) this
  · by_cases h : ch p = 112
    · by_cases h2 : ch (p + 1) = 97
      · exact ⟨h, h2⟩
      · rw [rd_go (by decide) h, rd_no (by decide) h2] at hh
        exact Bool.noConfusion (show false = true from hh)
    · rw [rd_no (by decide) h] at hh
      exact Bool.noConfusion (show false = true from hh)
def fpn (ch : Int → Int) (p : Int) (j : Nat) : Int := (rd ch (LSn j) p).2.1
def fur (ch : Int → Int) (p : Int) : Nat → Int
  | 0 => p
  | n + 1 => if fur ch p n < fpn ch p n then fpn ch p n else fur ch p n
theorem fur_ge (ch : Int → Int) (p : Int) : ∀ n, p ≤ fur ch p n ∧ ∀ j, j < n → fpn ch p j ≤ fur ch p n
  | 0 => ⟨Int.le_refl _, fun j h => absurd h (by omega)⟩
  | n + 1 => by
    obtain ⟨h1, h2⟩ := fur_ge ch p n
    unfold fur
    refine ⟨by split <;> omega, fun j hj => ?_⟩
    by_cases c : j = n
    · subst c; split <;> omega
    · have := h2 j (by omega); split <;> omega
theorem fur_is (ch : Int → Int) (p : Int) : ∀ n, fur ch p n = p ∨ ∃ j, j < n ∧ fur ch p n = fpn ch p j
  | 0 => Or.inl rfl
  | n + 1 => by
    unfold fur
    split
    · exact Or.inr ⟨n, by omega, rfl⟩
    · rcases fur_is ch p n with h | ⟨j, h1, h2⟩
      · exact Or.inl h
      · exact Or.inr ⟨j, by omega, h2⟩
theorem res_ok {ch : Int → Int} {p : Int} {j : Nat} (hj : j < 8) (h : (rd ch (LSn j) p).1 = true) : kdn ch p = j := by
  rcases (by omega : j = 0 ∨ j = 1 ∨ j = 2 ∨ j = 3 ∨ j = 4 ∨ j = 5 ∨ j = 6 ∨ j = 7) with e | e | e | e | e | e | e | e <;> subst e
  · have := (fp_0 ch p).2.2.2 h
    unfold kdn
    rw [this.1, this.2]
    rfl
  · have := (fp_1 ch p).2.2.2 h
    unfold kdn
    rw [this.1, this.2]
    rfl
  · have := (fp_2 ch p).2.2.2 h
    unfold kdn
    rw [this.1, this.2]
    rfl
  · have := (fp_3 ch p).2.2.2 h
    unfold kdn
    rw [this.1, this.2]
    rfl
  · have := (fp_4 ch p).2.2.2 h
    unfold kdn
    rw [this.1, this.2]
    rfl
  · have := (fp_5 ch p).2.2.2 h
    unfold kdn
    rw [this.1, this.2]
    rfl
  · have := (fp_6 ch p).2.2.2 h
    unfold kdn
    rw [this.1, this.2]
    rfl
  · have := (fp_7 ch p).2.2.2 h
    unfold kdn
    rw [this.1, this.2]
    rfl
theorem fur_8 (ch : Int → Int) (p : Int) : fur ch p 8 = (res ch p).2.1 := by
  have u := fur_ge ch p 8
  have u0 := u.2 0 (by decide)
  have u1 := u.2 1 (by decide)
  have u2 := u.2 2 (by decide)
  have u3 := u.2 3 (by decide)
  have u4 := u.2 4 (by decide)
  have u5 := u.2 5 (by decide)
  have u6 := u.2 6 (by decide)
  have u7 := u.2 7 (by decide)
  have hj8 : ∀ j, j < 8 → j = 0 ∨ j = 1 ∨ j = 2 ∨ j = 3 ∨ j = 4 ∨ j = 5 ∨ j = 6 ∨ j = 7 := fun j hj => by omega
  by_cases a1 : ch p = 103
  · by_cases b1 : ch (p + 1) = 97
    · have _x := b1
      have g0 : p + 2 ≤ fpn ch p 0 := (fp_0 ch p).2.2.1 a1 b1
      have g1 : fpn ch p 1 = p + 1 := (fp_1 ch p).2.1 a1 (by omega)
      have g2 : fpn ch p 2 = p := (fp_2 ch p).1 (by omega)
      have g3 : fpn ch p 3 = p := (fp_3 ch p).1 (by omega)
      have g4 : fpn ch p 4 = p := (fp_4 ch p).1 (by omega)
      have g5 : fpn ch p 5 = p := (fp_5 ch p).1 (by omega)
      have g6 : fpn ch p 6 = p := (fp_6 ch p).1 (by omega)
      have g7 : fpn ch p 7 = p := (fp_7 ch p).1 (by omega)
      have hk : kdn ch p = 0 := by
        unfold kdn
        rw [if_pos a1, if_pos b1]
      have hr : (res ch p).2.1 = fpn ch p 0 := by
        unfold res
        rw [hk]
        rfl
      rcases fur_is ch p 8 with e | ⟨j, hj, e⟩
      · omega
      · rcases hj8 j hj with z | z | z | z | z | z | z | z <;> subst z <;> omega
    · by_cases b2 : ch (p + 1) = 117
      · have _x := b2
        have g0 : fpn ch p 0 = p + 1 := (fp_0 ch p).2.1 a1 (by omega)
        have g1 : p + 2 ≤ fpn ch p 1 := (fp_1 ch p).2.2.1 a1 b2
        have g2 : fpn ch p 2 = p := (fp_2 ch p).1 (by omega)
        have g3 : fpn ch p 3 = p := (fp_3 ch p).1 (by omega)
        have g4 : fpn ch p 4 = p := (fp_4 ch p).1 (by omega)
        have g5 : fpn ch p 5 = p := (fp_5 ch p).1 (by omega)
        have g6 : fpn ch p 6 = p := (fp_6 ch p).1 (by omega)
        have g7 : fpn ch p 7 = p := (fp_7 ch p).1 (by omega)
        have hk : kdn ch p = 1 := by
          unfold kdn
          rw [if_pos a1, if_neg b1, if_pos b2]
        have hr : (res ch p).2.1 = fpn ch p 1 := by
          unfold res
          rw [hk]
          rfl
        rcases fur_is ch p 8 with e | ⟨j, hj, e⟩
        · omega
        · rcases hj8 j hj with z | z | z | z | z | z | z | z <;> subst z <;> omega
      · have _x := b2
        have g0 : fpn ch p 0 = p + 1 := (fp_0 ch p).2.1 a1 (by omega)
        have g1 : fpn ch p 1 = p + 1 := (fp_1 ch p).2.1 a1 (by omega)
        have g2 : fpn ch p 2 = p := (fp_2 ch p).1 (by omega)
        have g3 : fpn ch p 3 = p := (fp_3 ch p).1 (by omega)
        have g4 : fpn ch p 4 = p := (fp_4 ch p).1 (by omega)
        have g5 : fpn ch p 5 = p := (fp_5 ch p).1 (by omega)
        have g6 : fpn ch p 6 = p := (fp_6 ch p).1 (by omega)
        have g7 : fpn ch p 7 = p := (fp_7 ch p).1 (by omega)
        have hk : kdn ch p = -1 := by
          unfold kdn
          rw [if_pos a1, if_neg b1, if_neg b2]
        have hr : (res ch p).2.1 = kq ch p := by
          unfold res
          rw [if_pos hk]
        have hq : kq ch p = p + 1 := by
          unfold kq
          rw [if_pos (by omega)]
        rcases fur_is ch p 8 with e | ⟨j, hj, e⟩
        · omega
        · rcases hj8 j hj with z | z | z | z | z | z | z | z <;> subst z <;> omega
  · by_cases a2 : ch p = 102
    · by_cases b1 : ch (p + 1) = 114
      · have _x := b1
        have g0 : fpn ch p 0 = p := (fp_0 ch p).1 (by omega)
        have g1 : fpn ch p 1 = p := (fp_1 ch p).1 (by omega)
        have g2 : fpn ch p 2 = p := (fp_2 ch p).1 (by omega)
        have g3 : p + 2 ≤ fpn ch p 3 := (fp_3 ch p).2.2.1 a2 b1
        have g4 : fpn ch p 4 = p := (fp_4 ch p).1 (by omega)
        have g5 : fpn ch p 5 = p + 1 := (fp_5 ch p).2.1 a2 (by omega)
        have g6 : fpn ch p 6 = p + 1 := (fp_6 ch p).2.1 a2 (by omega)
        have g7 : fpn ch p 7 = p := (fp_7 ch p).1 (by omega)
        have hk : kdn ch p = 3 := by
          unfold kdn
          rw [if_neg a1, if_pos a2, if_pos b1]
        have hr : (res ch p).2.1 = fpn ch p 3 := by
          unfold res
          rw [hk]
          rfl
        rcases fur_is ch p 8 with e | ⟨j, hj, e⟩
        · omega
        · rcases hj8 j hj with z | z | z | z | z | z | z | z <;> subst z <;> omega
      · by_cases b2 : ch (p + 1) = 105
        · have _x := b2
          have g0 : fpn ch p 0 = p := (fp_0 ch p).1 (by omega)
          have g1 : fpn ch p 1 = p := (fp_1 ch p).1 (by omega)
          have g2 : fpn ch p 2 = p := (fp_2 ch p).1 (by omega)
          have g3 : fpn ch p 3 = p + 1 := (fp_3 ch p).2.1 a2 (by omega)
          have g4 : fpn ch p 4 = p := (fp_4 ch p).1 (by omega)
          have g5 : p + 2 ≤ fpn ch p 5 := (fp_5 ch p).2.2.1 a2 b2
          have g6 : fpn ch p 6 = p + 1 := (fp_6 ch p).2.1 a2 (by omega)
          have g7 : fpn ch p 7 = p := (fp_7 ch p).1 (by omega)
          have hk : kdn ch p = 5 := by
            unfold kdn
            rw [if_neg a1, if_pos a2, if_neg b1, if_pos b2]
          have hr : (res ch p).2.1 = fpn ch p 5 := by
            unfold res
            rw [hk]
            rfl
          rcases fur_is ch p 8 with e | ⟨j, hj, e⟩
          · omega
          · rcases hj8 j hj with z | z | z | z | z | z | z | z <;> subst z <;> omega
        · by_cases b3 : ch (p + 1) = 111
          · have _x := b3
            have g0 : fpn ch p 0 = p := (fp_0 ch p).1 (by omega)
            have g1 : fpn ch p 1 = p := (fp_1 ch p).1 (by omega)
            have g2 : fpn ch p 2 = p := (fp_2 ch p).1 (by omega)
            have g3 : fpn ch p 3 = p + 1 := (fp_3 ch p).2.1 a2 (by omega)
            have g4 : fpn ch p 4 = p := (fp_4 ch p).1 (by omega)
            have g5 : fpn ch p 5 = p + 1 := (fp_5 ch p).2.1 a2 (by omega)
            have g6 : p + 2 ≤ fpn ch p 6 := (fp_6 ch p).2.2.1 a2 b3
            have g7 : fpn ch p 7 = p := (fp_7 ch p).1 (by omega)
            have hk : kdn ch p = 6 := by
              unfold kdn
              rw [if_neg a1, if_pos a2, if_neg b1, if_neg b2, if_pos b3]
            have hr : (res ch p).2.1 = fpn ch p 6 := by
              unfold res
              rw [hk]
              rfl
            rcases fur_is ch p 8 with e | ⟨j, hj, e⟩
            · omega
            · rcases hj8 j hj with z | z | z | z | z | z | z | z <;> subst z <;> omega
          · have _x := b3
            have g0 : fpn ch p 0 = p := (fp_0 ch p).1 (by omega)
            have g1 : fpn ch p 1 = p := (fp_1 ch p).1 (by omega)
            have g2 : fpn ch p 2 = p := (fp_2 ch p).1 (by omega)
            have g3 : fpn ch p 3 = p + 1 := (fp_3 ch p).2.1 a2 (by omega)
            have g4 : fpn ch p 4 = p := (fp_4 ch p).1 (by omega)
            have g5 : fpn ch p 5 = p + 1 := (fp_5 ch p).2.1 a2 (by omega)
            have g6 : fpn ch p 6 = p + 1 := (fp_6 ch p).2.1 a2 (by omega)
            have g7 : fpn ch p 7 = p := (fp_7 ch p).1 (by omega)
            have hk : kdn ch p = -1 := by
              unfold kdn
              rw [if_neg a1, if_pos a2, if_neg b1, if_neg b2, if_neg b3]
            have hr : (res ch p).2.1 = kq ch p := by
              unfold res
              rw [if_pos hk]
            have hq : kq ch p = p + 1 := by
              unfold kq
              rw [if_pos (by omega)]
            rcases fur_is ch p 8 with e | ⟨j, hj, e⟩
            · omega
            · rcases hj8 j hj with z | z | z | z | z | z | z | z <;> subst z <;> omega
    · by_cases a3 : ch p = 100
      · have _x := a3
        have g0 : fpn ch p 0 = p := (fp_0 ch p).1 (by omega)
        have g1 : fpn ch p 1 = p := (fp_1 ch p).1 (by omega)
        have g2 : p ≤ fpn ch p 2 := rd_ge ch LS_2 p
        have g3 : fpn ch p 3 = p := (fp_3 ch p).1 (by omega)
        have g4 : fpn ch p 4 = p := (fp_4 ch p).1 (by omega)
        have g5 : fpn ch p 5 = p := (fp_5 ch p).1 (by omega)
        have g6 : fpn ch p 6 = p := (fp_6 ch p).1 (by omega)
        have g7 : fpn ch p 7 = p := (fp_7 ch p).1 (by omega)
        have hk : kdn ch p = 2 := by
          unfold kdn
          rw [if_neg a1, if_neg a2, if_pos a3]
        have hr : (res ch p).2.1 = fpn ch p 2 := by
          unfold res
          rw [hk]
          rfl
        rcases fur_is ch p 8 with e | ⟨j, hj, e⟩
        · omega
        · rcases hj8 j hj with z | z | z | z | z | z | z | z <;> subst z <;> omega
      · by_cases a4 : ch p = 108
        · have _x := a4
          have g0 : fpn ch p 0 = p := (fp_0 ch p).1 (by omega)
          have g1 : fpn ch p 1 = p := (fp_1 ch p).1 (by omega)
          have g2 : fpn ch p 2 = p := (fp_2 ch p).1 (by omega)
          have g3 : fpn ch p 3 = p := (fp_3 ch p).1 (by omega)
          have g4 : p ≤ fpn ch p 4 := rd_ge ch LS_4 p
          have g5 : fpn ch p 5 = p := (fp_5 ch p).1 (by omega)
          have g6 : fpn ch p 6 = p := (fp_6 ch p).1 (by omega)
          have g7 : fpn ch p 7 = p := (fp_7 ch p).1 (by omega)
          have hk : kdn ch p = 4 := by
            unfold kdn
            rw [if_neg a1, if_neg a2, if_neg a3, if_pos a4]
          have hr : (res ch p).2.1 = fpn ch p 4 := by
            unfold res
            rw [hk]
            rfl
          rcases fur_is ch p 8 with e | ⟨j, hj, e⟩
          · omega
          · rcases hj8 j hj with z | z | z | z | z | z | z | z <;> subst z <;> omega
        · by_cases a5 : ch p = 112
          · have _x := a5
            have g0 : fpn ch p 0 = p := (fp_0 ch p).1 (by omega)
            have g1 : fpn ch p 1 = p := (fp_1 ch p).1 (by omega)
            have g2 : fpn ch p 2 = p := (fp_2 ch p).1 (by omega)
            have g3 : fpn ch p 3 = p := (fp_3 ch p).1 (by omega)
            have g4 : fpn ch p 4 = p := (fp_4 ch p).1 (by omega)
            have g5 : fpn ch p 5 = p := (fp_5 ch p).1 (by omega)
            have g6 : fpn ch p 6 = p := (fp_6 ch p).1 (by omega)
            have g7 : p ≤ fpn ch p 7 := rd_ge ch LS_7 p
            have hk : kdn ch p = 7 := by
              unfold kdn
              rw [if_neg a1, if_neg a2, if_neg a3, if_neg a4, if_pos a5]
            have hr : (res ch p).2.1 = fpn ch p 7 := by
              unfold res
              rw [hk]
              rfl
            rcases fur_is ch p 8 with e | ⟨j, hj, e⟩
            · omega
            · rcases hj8 j hj with z | z | z | z | z | z | z | z <;> subst z <;> omega
          · have _x := a5
            have g0 : fpn ch p 0 = p := (fp_0 ch p).1 (by omega)
            have g1 : fpn ch p 1 = p := (fp_1 ch p).1 (by omega)
            have g2 : fpn ch p 2 = p := (fp_2 ch p).1 (by omega)
            have g3 : fpn ch p 3 = p := (fp_3 ch p).1 (by omega)
            have g4 : fpn ch p 4 = p := (fp_4 ch p).1 (by omega)
            have g5 : fpn ch p 5 = p := (fp_5 ch p).1 (by omega)
            have g6 : fpn ch p 6 = p := (fp_6 ch p).1 (by omega)
            have g7 : fpn ch p 7 = p := (fp_7 ch p).1 (by omega)
            have hk : kdn ch p = -1 := by
              unfold kdn
              rw [if_neg a1, if_neg a2, if_neg a3, if_neg a4, if_neg a5]
            have hr : (res ch p).2.1 = kq ch p := by
              unfold res
              rw [if_pos hk]
            have hq : kq ch p = p := by
              unfold kq
              rw [if_neg (by omega)]
            rcases fur_is ch p 8 with e | ⟨j, hj, e⟩
            · omega
            · rcases hj8 j hj with z | z | z | z | z | z | z | z <;> subst z <;> omega
theorem res_is {ch : Int → Int} {p : Int} {j : Nat} (hj : j < 8) (h : (rd ch (LSn j) p).1 = true) : res ch p = rd ch (LSn j) p := by
  have hk := res_ok hj h
  unfold res
  rw [if_neg (by omega), hk, Int.toNat_natCast]
theorem res_no {ch : Int → Int} {p : Int} (h : ∀ j, j < 8 → (rd ch (LSn j) p).1 = false) : (res ch p).1 = false := by
  unfold res
  by_cases c : kdn ch p = -1
  · rw [if_pos c]
  · rw [if_neg c]
    refine h _ ?_
    unfold kdn
    repeat' split
    all_goals decide
