/-! the invariant of the law's loop -/
def ring (σ : Mem) : Nat → Nat → Int32 := fun k => match k with
  | 0 => σ 6 | 1 => σ 7 | 2 => σ 8 | 3 => σ 9 | 4 => σ 10 | 5 => σ 11 | 6 => σ 12 | 7 => σ 13 | _ => σ 14
def HS (rg : Nat → Nat → Int32) (nx sz ch : Int32) (kp : Nat → Int32) : Prop := ∃ n m : Int, (0 ≤ n ∧ n < 9) ∧ (0 ≤ m ∧ m ≤ 8) ∧ nx = zI n ∧ sz = zI m ∧ ch = zI m ∧ ∀ i : Int, 0 ≤ i → i < m → ∃ b : Nat → Int, WF b ∧ RC b (rg ((n + 9 - m + i) % 9).toNat) ∧ RG b (fun j => kp (179 * i.toNat + j))
def SV (s1 s2 : Int32) (c g : Nat → Int32) : Prop := (s1 = 0 ∧ s2 = 0) ∨ (s1 = 1 ∧ s2 = 1 ∧ ∃ b : Nat → Int, WF b ∧ RC b c ∧ RG b g)
def OU (N : Int) (l1 l2 : Int32) (c g : Nat → Int32) : Prop := ∃ n : Int, (0 ≤ n ∧ n ≤ N) ∧ l1 = zI n ∧ l2 = zI n ∧ ∀ j : Nat, (j : Int) < n → ∃ q : Nat, q < 65536 ∧ c j = nI q ∧ g j = nI q
def ER (e1 e2 : Int32) : Prop := ∃ e : Int, (-1 ≤ e ∧ e ≤ 1000) ∧ e1 = zI e ∧ e2 = zI e
def RowI (c g : Nat → Int32) : Prop := ∃ a : Nat → Int, WF a ∧ RC a c ∧ RG a g
def Rest (σ : Mem) : Prop := HS (ring σ) (σ 4 1) (σ 4 2) (σ 25 5) (σ 27) ∧ SV (σ 0 5) (σ 25 4) (σ 23) (σ 28) ∧ σ 25 6 = 0 ∧ (σ 0 8 = σ 25 8 ∧ σ 0 9 = σ 25 9) ∧ OU 28 (σ 0 7) (σ 25 15) (σ 24) (σ 31) ∧ OU 60 (σ 19 1) (σ 25 11) (σ 20) (σ 30) ∧ ER (σ 0 10) (σ 25 12) ∧ ER (σ 0 11) (σ 25 13) ∧ σ 18 0 = 0
def Inv (σ : Mem) : Prop := RowI (σ 2) (σ 26) ∧ Rest σ
theorem fin_i {σ3 : Mem} {r1 r4 : Int32} {B : Mem → Prop} (h1 : σ3 25 7 = r1) (h2 : r1 = 0 → σ3 34 0 = r4) (h3 : B σ3) : wp_X5_thrown σ3 (fun r6 σ5 => ((r6 = r1 → ((¬ r1 = (0 : Int32) → B σ5) ∧ (r1 = (0 : Int32) → (((lg_cmp (σ5 34 0).toInt64 r4.toInt64) = (0 : Int32) → B σ5) ∧ (¬ (lg_cmp (σ5 34 0).toInt64 r4.toInt64) = (0 : Int32) → False))))) ∧ (¬ r6 = r1 → False))) := by
  unfold wp_X5_thrown
  refine ⟨fun _ => ⟨fun _ => h3, fun c => ⟨fun _ => h3, fun c2 => c2 ?_⟩⟩, fun c => c h1⟩
  rw [h2 c]
  simp [lg_cmp]
theorem fin_b {σ3 : Mem} {r1 r4 : Int32} {B : Mem → Prop} (h1 : σ3 25 7 = r1) (h2 : r1 = 0 → (σ3 34 0 = r4 ∧ (r4 = 0 ∨ r4 = 1))) (h3 : B σ3) : wp_X5_thrown σ3 (fun r6 σ5 => ((r6 = r1 → ((¬ r1 = (0 : Int32) → B σ5) ∧ (r1 = (0 : Int32) → ((r4 = (0 : Int32) → (((lg_cmp (σ5 34 0).toInt64 (0 : Int32).toInt64) = (0 : Int32) → B σ5) ∧ (¬ (lg_cmp (σ5 34 0).toInt64 (0 : Int32).toInt64) = (0 : Int32) → False))) ∧ (¬ r4 = (0 : Int32) → (((lg_cmp (σ5 34 0).toInt64 (1 : Int32).toInt64) = (0 : Int32) → B σ5) ∧ (¬ (lg_cmp (σ5 34 0).toInt64 (1 : Int32).toInt64) = (0 : Int32) → False))))))) ∧ (¬ r6 = r1 → False))) := by
  unfold wp_X5_thrown
  refine ⟨fun _ => ⟨fun _ => h3, fun c => ⟨fun c0 => ⟨fun _ => h3, fun c2 => c2 ?_⟩, fun c0 => ⟨fun _ => h3, fun c2 => c2 ?_⟩⟩⟩, fun c => c h1⟩
  · rw [(h2 c).1, c0]
    decide
  · have h9 := (h2 c).2.resolve_left c0
    rw [(h2 c).1, h9]
    decide
theorem fin_e {r2 r4 : Int32} {P : Prop} (h : r2 = r4) (hB : P) : ((r2 = r4 → P) ∧ (¬ r2 = r4 → False)) := ⟨fun _ => hB, fun c => c h⟩
theorem m_f0 {σ : Mem} {K : Int32 → Mem → Prop} (h : K 0 (st σ 25 7 0)) : wp_X5_fails 0 σ K := m_fails (v := 0) (by decide) (fun _ => h) (fun c => absurd c (by decide))
theorem m_f1 {σ : Mem} {K : Int32 → Mem → Prop} {n : Int} (hn : 0 < n ∧ n < 100) (h : K 1 (st σ 25 7 (zI n))) : wp_X5_fails (zI n) σ K := m_fails (v := n) (by omega) (fun c => absurd c (by omega)) (fun _ => h)
