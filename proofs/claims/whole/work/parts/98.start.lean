/-! the start, and every call -/
theorem Inv_0 : Inv σ0 := by
  have hW : WF (fun j => if j = 2 then 20 else if 39 ≤ j then -1 else 0) := by
    refine ⟨by decide, by decide, by decide, by decide, fun k hk => ?_, fun k hk => ?_, fun k hk => ?_, fun j h1 h2 => ?_, fun j h1 h2 => ?_⟩
    all_goals (try (show _ ≤ (if _ then _ else if _ then _ else _) ∧ (if _ then _ else if _ then _ else _) ≤ _ ; rw [if_neg (by omega), if_neg (by omega)]; decide))
    · show 0 ≤ (if 29 + k = 2 then (20 : Int) else if 39 ≤ 29 + k then -1 else 0) ∧ (if 29 + k = 2 then (20 : Int) else if 39 ≤ 29 + k then -1 else 0) < 268435456
      rw [if_neg (by omega), if_neg (by omega)]; decide
    · show -1 ≤ (if j = 2 then (20 : Int) else if 39 ≤ j then -1 else 0) ∧ (if j = 2 then (20 : Int) else if 39 ≤ j then -1 else 0) < 0
      rw [if_neg (by omega), if_pos h1]; decide
    · show (if j = 2 then (20 : Int) else if 39 ≤ j then -1 else 0) = -1
      rw [if_neg (by simp at h1; omega), if_pos (by simp at h1; omega)]
  refine ⟨⟨fun j => if j = 2 then 20 else if 39 ≤ j then -1 else 0, hW, ⟨fun j hj => ?_, fun j h1 h2 => ?_⟩, rfl, rfl, rfl, rfl, fun k hk => ?_, fun k hk => ⟨?_, ?_, ?_⟩, fun j h1 h2 => ?_⟩, ⟨0, 0, by decide, by decide, rfl, rfl, rfl, fun i i0 i1 => absurd i1 (by omega)⟩, Or.inl ⟨rfl, rfl⟩, rfl, ⟨rfl, rfl⟩, ⟨0, by decide, rfl, rfl, fun j hj => absurd hj (by omega)⟩, ⟨0, by decide, rfl, rfl, fun j hj => absurd hj (by omega)⟩, ⟨-1, by decide, zl_m1, zl_m1⟩, ⟨-1, by decide, zl_m1, zl_m1⟩, rfl⟩
  · show (if j = 2 then (20 : Int32) else 0) = zI (if j = 2 then 20 else if 39 ≤ j then -1 else 0)
    by_cases c : j = 2
    · rw [if_pos c, if_pos c]; exact zl_20
    · rw [if_neg c, if_neg c, if_neg (by omega)]; rfl
  · show (if j = 2 then (20 : Int32) else 0) = zI ((if j = 2 then 20 else if 39 ≤ j then -1 else 0) + 1)
    rw [if_neg (by omega), if_neg (by omega), if_pos h1]; rfl
  · show (if 39 ≤ 4 + k ∧ 4 + k < 39 + 140 then (-1 : Int32) else if 4 + k = 3 then 20 else 0) = zI (if 4 + k = 2 then 20 else if 39 ≤ 4 + k then -1 else 0)
    rw [if_neg (by omega), if_neg (by omega), if_neg (by omega), if_neg (by omega)]; rfl
  · show (if 39 ≤ 9 + 2 * k ∧ 9 + 2 * k < 39 + 140 then (-1 : Int32) else if 9 + 2 * k = 3 then 20 else 0) = zI (if 9 + k = 2 then 20 else if 39 ≤ 9 + k then -1 else 0)
    rw [if_neg (by omega), if_neg (by omega), if_neg (by omega), if_neg (by omega)]; rfl
  · show (if 39 ≤ 10 + 2 * k ∧ 10 + 2 * k < 39 + 140 then (-1 : Int32) else if 10 + 2 * k = 3 then 20 else 0) = zI (if 19 + k = 2 then 20 else if 39 ≤ 19 + k then -1 else 0)
    rw [if_neg (by omega), if_neg (by omega), if_neg (by omega), if_neg (by omega)]; rfl
  · show (if 39 ≤ 29 + k ∧ 29 + k < 39 + 140 then (-1 : Int32) else if 29 + k = 3 then 20 else 0) = zI (if 29 + k = 2 then 20 else if 39 ≤ 29 + k then -1 else 0)
    rw [if_neg (by omega), if_neg (by omega), if_neg (by omega), if_neg (by omega)]; rfl
  · show (if 39 ≤ j ∧ j < 39 + 140 then (-1 : Int32) else if j = 3 then 20 else 0) = zI (if j = 2 then 20 else if 39 ≤ j then -1 else 0)
    rw [if_pos ⟨h1, by omega⟩, if_neg (by omega), if_pos h1]; exact zl_m1
theorem all_ops (a0 a1 a2 a3 a4 : Int32) (σ : Mem) (hI : Inv σ) : wplc a0 a1 a2 a3 a4 σ Inv := by
  unfold wplc
  refine ⟨fun _ => o_0 hI a1 a2 a3 a4, fun _ => o_1 hI a1 a2 a3 a4, fun _ => o_2 hI a1 a2 a3 a4, fun _ => o_3 hI a1 a2 a3 a4, fun _ => o_4 hI a1 a2 a3 a4, fun _ => o_5 hI a1 a2 a3 a4, fun _ => o_6 hI a1 a2 a3 a4, fun _ => o_7 hI a1 a2 a3 a4, fun _ => o_8 hI a1 a2 a3 a4, fun _ => o_9 hI a1 a2 a3 a4, fun _ => o_10 hI a1 a2 a3 a4, fun _ => o_11 hI a1 a2 a3 a4, fun _ => o_12 hI a1 a2 a3 a4, fun _ => o_13 hI a1 a2 a3 a4, fun _ => o_14 hI a1 a2 a3 a4, fun _ => o_15 hI a1 a2 a3 a4, fun _ => o_16 hI a1 a2 a3 a4, fun _ => o_17 hI a1 a2 a3 a4, fun _ => o_18 hI a1 a2 a3 a4, fun _ => o_19 hI a1 a2 a3 a4, fun _ => o_20 hI a1 a2 a3 a4, fun _ => o_21 hI a1 a2 a3 a4, fun _ => o_22 hI a1 a2 a3 a4, fun _ => o_23 hI a1 a2 a3 a4, fun _ => o_24 hI a1 a2 a3 a4, fun _ => o_25 hI a1 a2 a3 a4, fun _ => o_26 hI a1 a2 a3 a4, fun _ => o_27 hI a1 a2 a3 a4, fun _ => o_28 hI a1 a2 a3 a4, fun _ => o_29 hI a1 a2 a3 a4, fun _ => o_30 hI a1 a2 a3 a4, fun _ => o_31 hI a1 a2 a3 a4, fun _ => o_32 hI a1 a2 a3 a4, fun _ => o_33 hI a1 a2 a3 a4, fun _ => o_34 hI a1 a2 a3 a4, fun _ => o_35 hI a1 a2 a3 a4, fun _ => o_36 hI a1 a2 a3 a4, fun _ => o_37 hI a1 a2 a3 a4, fun _ => o_38 hI a1 a2 a3 a4, fun _ => o_39 hI a1 a2 a3 a4, fun _ => o_40 hI a1 a2 a3 a4, fun _ => o_41 hI a1 a2 a3 a4, fun _ => o_42 hI a1 a2 a3 a4, fun _ => o_43 hI a1 a2 a3 a4, fun _ => o_44 hI a1 a2 a3 a4, fun _ => o_45 hI a1 a2 a3 a4, fun _ => o_46 hI a1 a2 a3 a4, fun _ => o_47 hI a1 a2 a3 a4, fun _ => o_48 hI a1 a2 a3 a4, fun _ _ _ _ _ _ _ _ _ _ _ _ _ _ _ _ _ _ _ _ _ _ _ _ _ _ _ _ _ _ _ _ _ _ _ _ _ _ _ _ _ _ _ _ _ _ _ _ _ => hI⟩
/-- YOUR PART: from the entry, the law comes to its end with true -/
theorem whole_start {p : Program} {e : Env} {s : State} {m : MethodId} {below : List Frame} {meth : Method} {c : Code} (l : Launch) (hflags : l.flags = flags0) {b L : Nat} {xs : Nat → Int32} (hL : L ≤ 2560) (C0 : lw_At p s m meth c b L xs) : W p l e room_1 s m #[Value.ref b] below meth c s.heap [] 0 0 (lw_Z below #[Value.ref b] s) (entryFrame m ([Value.ref b] : List Value).toArray 9) :=
  law_run l (by
    unfold Launch.stackTraces
    rw [hflags]
    decide +kernel) hL C0 Inv Inv_0 (fun a0 a1 a2 a3 a4 σ hI => all_ops a0 a1 a2 a3 a4 σ hI)
